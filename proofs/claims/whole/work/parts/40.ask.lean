/-! path and longest -/
theorem sx_cong {f g : Nat → Int32} {n : Nat} (hv : qVal f n) (hn : n ≤ 5) (hfg : ∀ j, j < n → g j = f j) : ∀ (k : Nat) (a : Int32), (¬ 10 ≤ a ∨ ∃ i, i < n ∧ a = nI (10 + i)) → sx g k a = sx f k a := by
  intro k
  induction k with
  | zero => intro a _; rfl
  | succ k ih =>
    intro a ha
    rw [sx, sx]
    rcases ha with h | ⟨i, hi, rfl⟩
    · rw [if_neg (fun q => h q.1), if_neg (fun q => h q.1)]
    · rw [if_pos (qsv_nI (by omega)), if_pos (qsv_nI (by omega)), show (nI (10 + i) - 10 : Int32) = nI i from by rw [← q_10p, Int32.add_comm, Int32.add_sub_cancel], nI_c (by omega), hfg i hi, ih _ (hv i hi)]
theorem rst_cong {f g : Nat → Int32} {n s : Nat} (hv : qVal f n) (hs : s < n) (hn : n ≤ 5) (hfg : ∀ j, j < n → g j = f j) : rst g n (nI s) = rst f n (nI s) := by
  unfold rst
  rw [hd_cong hv hs hn hfg, q_10p, sx_cong hv hn hfg _ _ (Or.inr ⟨s, hs, rfl⟩)]
theorem cst_cong {f g : Nat → Int32} {n s : Nat} (hv : qVal f n) (hs : s < n) (hn : n ≤ 5) (hfg : ∀ j, j < n → g j = f j) : cst g n (nI s) = cst f n (nI s) := by
  unfold cst
  rw [rst_cong hv hs hn hfg]
theorem rst_pos {f : Nat → Int32} {n s : Nat} (hs : s < 5) (hn : n ≤ 5) (h : ¬ rst f n (nI s) = -1) : ∃ m, 1 ≤ m ∧ m ≤ 6 ∧ rst f n (nI s) = nI m := by
  obtain ⟨-, -, -, e⟩ := rst_up hn h
  have h1 := (sx_spec (f := f) (n + 1) (10 + nI s)).1
  refine ⟨_, ?_, by omega, e⟩
  rw [q_10p, sx, if_pos (qsv_nI hs)]
  omega
theorem cst_eq {f : Nat → Int32} {n s : Nat} (hs : s < 5) (hn : n ≤ 5) : (rst f n (nI s) = -1 ∧ cst f n (nI s) = 0) ∨ (¬ rst f n (nI s) = -1 ∧ cst f n (nI s) = rst f n (nI s) ∧ ¬ cst f n (nI s) = 0 ∧ 0 < cst f n (nI s)) := by
  unfold cst
  by_cases h : rst f n (nI s) = -1
  · left; rw [if_pos h]; exact ⟨h, rfl⟩
  · right
    obtain ⟨m, h1, h2, e⟩ := rst_pos hs hn h
    rw [if_neg h]
    refine ⟨h, rfl, ?_, ?_⟩
    · rw [e]; exact nI_ne0 (by omega) (by omega)
    · rw [e]; exact nI_lt (a := 0) (by omega) (by omega)
noncomputable def fPath (LE : Int32 → Nat → Int32) (p : qPa) (a b c : Int32) : Int32 := @ite Int32 (qIn (pS p) a ∧ ¬ b < 0 ∧ -1 ≤ c) (Classical.propDecidable _) (if rst (LE b) (pS p) a = -1 ∨ ¬ c < rst (LE b) (pS p) a then -1 else if c = -1 then rst (LE b) (pS p) a else hx (LE b) (c + 1).toNatClampNeg (10 + a)) (-1000000)
/-- the longest way of the servants below i: its length, whose -/
def lgw (f : Nat → Int32) (n : Nat) : Nat → Int32 × Int32
  | 0 => (0, -1)
  | i + 1 => if (lgw f n i).1 < cst f n (nI i) then (cst f n (nI i), nI i) else lgw f n i
theorem lgw_inv {f : Nat → Int32} {n : Nat} (hn : n ≤ 5) : ∀ i, i ≤ n → ((lgw f n i).2 = -1 ∧ (lgw f n i).1 = 0) ∨ ∃ k, k < i ∧ (lgw f n i).2 = nI k ∧ ¬ rst f n (nI k) = -1 ∧ (lgw f n i).1 = rst f n (nI k) := by
  intro i
  induction i with
  | zero => intro _; exact Or.inl ⟨rfl, rfl⟩
  | succ i ih =>
    intro hi
    rw [lgw]
    split
    · next h =>
      right
      refine ⟨i, Nat.lt_succ_self i, rfl, ?_⟩
      have h0 : 0 ≤ (lgw f n i).1 := by
        rcases ih (by omega) with ⟨-, e⟩ | ⟨k, hk, -, e1, e2⟩
        · rw [e]; decide
        · obtain ⟨m, a1, a2, a3⟩ := rst_pos (by omega) hn e1
          rw [e2, a3]; exact nI_pos' (by omega)
      rcases cst_eq (f := f) (s := i) (by omega) hn with ⟨e1, e2⟩ | ⟨e1, e2, -, -⟩
      · rw [e2, i_lt] at h; rw [i_le] at h0; have e0 : (0 : Int32).toInt = 0 := rfl; omega
      · exact ⟨e1, e2⟩
    · rcases ih (by omega) with h | ⟨k, hk, e⟩
      · exact Or.inl h
      · exact Or.inr ⟨k, by omega, e⟩
theorem lgw_cong {f g : Nat → Int32} {n : Nat} (hv : qVal f n) (hn : n ≤ 5) (hfg : ∀ j, j < n → g j = f j) : ∀ i, i ≤ n → lgw g n i = lgw f n i := by
  intro i
  induction i with
  | zero => intro _; rfl
  | succ i ih => intro hi; rw [lgw, lgw, ih (by omega), cst_cong hv (by omega) hn hfg]
def fLongest (LE : Int32 → Nat → Int32) (p : qPa) (a b : Int32) : Int32 := if (b = 0 ∨ b = 1) ∧ 0 ≤ a then (if (lgw (LE a) (pS p) (pS p)).2 = -1 ∨ b = 0 then (lgw (LE a) (pS p) (pS p)).2 else (lgw (LE a) (pS p) (pS p)).1) else -1
theorem qLk.le5 {I J : Nat → Nat → Int32} {p : qPa} {t : Int32} (h : CI I p) (g : qLk I p t J) : ∀ j, j < pS p → J 70 j = LEn I p t j := fun j hj => g.2.2.1 j (by have := h.w5; omega)
section L40
variable {d : Nat} {K : qK} {I : Nat → Nat → Int32} {L : Nat → Nat → Int64} {R : Nat → Nat → Option Nat} {sz : Nat} {Q : Option Value → qMem → Prop} {p : qPa}
theorem u5004 {a b : Int32} (hK : qLay K sz) (hR : qRef R) (hb : ∃ m, m < 100 ∧ b = nI m) (h : Q (some (.int (hx (I 70) b.toNatClampNeg (10 + a)))) (K, I, L, R, sz)) : X (d + 1) 0 0 5004 0 0 0 (qent (qml 5004) [.ref 69, .int a, .int b]) [] (K, I, L, R, sz) Q := by
  obtain ⟨m, h1, rfl⟩ := hb
  rw [nI_c (by omega)] at h
  exact s5004 hK hR rfl h1 h

theorem t11029 {a : Int32} {b : Int32} {c : Int32}  (hK : qLay K sz) (hR : qRef R) (cI : CI I p) (b1 : qIn (pS p) a → ¬ b < 0 → (-1) ≤ c → ∀ I4 : Nat → Nat → Int32, qLk I p b I4 → I4 69 2 = nI (pS p)) (b2 : qIn (pS p) a → ¬ b < 0 → (-1) ≤ c → ∀ I4 : Nat → Nat → Int32, qLk I p b I4 → pS p ≤ 5) (b3 : qIn (pS p) a → ¬ b < 0 → (-1) ≤ c → ∀ I4 : Nat → Nat → Int32, qLk I p b I4 → ¬ (cst (I4 70) (pS p) a) = 0 → c < (cst (I4 70) (pS p) a) → ¬ c = (-1) → ∃ m, m < 100 ∧ (c + 1) = nI m) (q1 : qIn (pS p) a → b < 0 → Q (some (.int (-1000000))) (K, I, L, R, sz)) (q2 : qIn (pS p) a → ¬ b < 0 → (-1) ≤ c → ∀ I4 : Nat → Nat → Int32, qLk I p b I4 → (cst (I4 70) (pS p) a) = 0 → Q (some (.int (-1))) (K, I4, L, R, sz)) (q3 : qIn (pS p) a → ¬ b < 0 → (-1) ≤ c → ∀ I4 : Nat → Nat → Int32, qLk I p b I4 → ¬ (cst (I4 70) (pS p) a) = 0 → c < (cst (I4 70) (pS p) a) → ¬ c = (-1) → Q (some (.int (hx (I4 70) (Int32.toNatClampNeg (c + 1)) (10 + a)))) (K, I4, L, R, sz)) (q4 : qIn (pS p) a → ¬ b < 0 → (-1) ≤ c → ∀ I4 : Nat → Nat → Int32, qLk I p b I4 → ¬ (cst (I4 70) (pS p) a) = 0 → c < (cst (I4 70) (pS p) a) → c = (-1) → Q (some (.int (cst (I4 70) (pS p) a))) (K, I4, L, R, sz)) (q5 : qIn (pS p) a → ¬ b < 0 → (-1) ≤ c → ∀ I4 : Nat → Nat → Int32, qLk I p b I4 → ¬ (cst (I4 70) (pS p) a) = 0 → ¬ c < (cst (I4 70) (pS p) a) → Q (some (.int (-1))) (K, I4, L, R, sz)) (q6 : qIn (pS p) a → ¬ b < 0 → ¬ (-1) ≤ c → Q (some (.int (-1000000))) (K, I, L, R, sz)) (q7 : ¬ qIn (pS p) a → Q (some (.int (-1000000))) (K, I, L, R, sz)) : X (d + 7) 0 0 11029 0 0 0 (qent (qml 11029) [.ref 0, .int a, .int b, .int c]) [] (K, I, L, R, sz) Q := show X _ 0 0 11029 0 0 0 [some (.ref 0), some (.int a), some (.int b), some (.int c), none] [] _ _ from x_ald0 k11029_0 <| x_ild1 k11029_1 <| x_cV1 (MCz := 0) (MSz := 0) k11029_2 v11_133_10 (hK.at rfl) (Nat.le_of_ble_eq_true rfl) (Nat.le_of_ble_eq_true rfl) (Nat.le_refl _) (Nat.le_refl _) <| u11039 hK hR cI (fun g1 => x_ifeqF (tgt := 17) k11029_5 (by decide) (show ¬ (1 : Int32) = 0 by decide) <| x_ild2 k11029_8 <| x_iflt (tgt := 17) k11029_9 (by decide) (fun h2 => x_ldcI k11029_17 c11_153 <| x_iret k11029_19 rfl (Nat.le_refl _) (Nat.le_refl _) <| (q1 g1 h2)) (fun h2 => x_ild3 k11029_12 <| x_iconst (v := (-1)) k11029_13 rfl <| x_icmpge (tgt := 20) k11029_14 (by decide) (fun h3 => x_ald0 k11029_20 <| x_ild2 k11029_21 <| x_cV1 (MCz := 0) (MSz := 0) k11029_22 v11_196_10 (hK.at rfl) (Nat.le_of_ble_eq_true rfl) (Nat.le_of_ble_eq_true rfl) (Nat.le_refl _) (Nat.le_refl _) <| u11044 hK hR cI (fun I4 g5 => x_ald0 k11029_25 <| x_getR k11029_26 f11_73_10 (hK.at rfl) rfl (hR _ _ _ rfl) <| x_ild1 k11029_29 <| x_cV1 (MCz := 0) (MSz := 0) k11029_30 v11_215_5 (hK.at rfl) (Nat.le_of_ble_eq_true rfl) (Nat.le_of_ble_eq_true rfl) (Nat.le_refl _) (Nat.le_refl _) <| u5003 hK hR (b1 g1 h2 h3 I4 g5) (b2 g1 h2 h3 I4 g5) (x_ist4 k11029_33 (Nat.le_of_ble_eq_true rfl) rfl <| x_ild4 k11029_35 <| x_ifeq (tgt := 46) k11029_37 (by decide) (fun h6 => x_iconst (v := (-1)) k11029_46 rfl <| x_iret k11029_47 rfl (Nat.le_refl _) (Nat.le_refl _) <| (q2 g1 h2 h3 I4 g5 h6)) (fun h6 => x_ild3 k11029_40 <| x_ild4 k11029_41 <| x_icmplt (tgt := 48) k11029_43 (by decide) (fun h7 => x_ild3 k11029_48 <| x_iconst (v := (-1)) k11029_49 rfl <| x_icmpne (tgt := 58) k11029_50 (by decide) (fun h8 => x_ald0 k11029_58 <| x_getR k11029_59 f11_73_10 (hK.at rfl) rfl (hR _ _ _ rfl) <| x_ild1 k11029_62 <| x_ild3 k11029_63 <| x_iconst (v := 1) k11029_64 rfl <| x_iadd k11029_65 <| x_cV2 (MCz := 0) (MSz := 0) k11029_66 v11_299_5 (hK.at rfl) (Nat.le_of_ble_eq_true rfl) (Nat.le_of_ble_eq_true rfl) (Nat.le_refl _) (Nat.le_refl _) <| u5004 hK hR (b3 g1 h2 h3 I4 g5 h6 h7 h8) (x_iret k11029_69 rfl (Nat.le_refl _) (Nat.le_refl _) <| (q3 g1 h2 h3 I4 g5 h6 h7 h8))) (fun h8 => x_ild4 k11029_53 <| x_goto (tgt := 69) k11029_55 (by decide) <| x_iret k11029_69 rfl (Nat.le_refl _) (Nat.le_refl _) <| (q4 g1 h2 h3 I4 g5 h6 h7 h8))) (fun h7 => x_iconst (v := (-1)) k11029_46 rfl <| x_iret k11029_47 rfl (Nat.le_refl _) (Nat.le_refl _) <| (q5 g1 h2 h3 I4 g5 h6 h7)))))) (fun h3 => x_ldcI k11029_17 c11_153 <| x_iret k11029_19 rfl (Nat.le_refl _) (Nat.le_refl _) <| (q6 g1 h2 h3)))) (fun g9 => x_ifeqT (tgt := 17) k11029_5 (by decide) (show (0 : Int32) = 0 by decide) <| x_ldcI k11029_17 c11_153 <| x_iret k11029_19 rfl (Nat.le_refl _) (Nat.le_refl _) <| (q7 g9))
theorem t12096 {a : Int32} {b : Int32} {c : Int32}  (hK : qLay K sz) (hR : qRef R) (cI : CI I p) (rI : RI I p) (b1 : qIn (pS p) a → ¬ b < 0 → (-1) ≤ c → ∀ I4 : Nat → Nat → Int32, qLr I p b I4 → I4 73 24 = nI (pS p)) (b2 : qIn (pS p) a → ¬ b < 0 → (-1) ≤ c → ∀ I4 : Nat → Nat → Int32, qLr I p b I4 → pS p ≤ 5) (b3 : qIn (pS p) a → ¬ b < 0 → (-1) ≤ c → ∀ I4 : Nat → Nat → Int32, qLr I p b I4 → qVal (I4 89) (pS p)) (b4 : qIn (pS p) a → ¬ b < 0 → (-1) ≤ c → ∀ I4 : Nat → Nat → Int32, qLr I p b I4 → qIn (pS p) a) (b5 : qIn (pS p) a → ¬ b < 0 → (-1) ≤ c → ∀ I4 : Nat → Nat → Int32, qLr I p b I4 → ¬ (rst (I4 89) (pS p) a) = (-1) → c < (rst (I4 89) (pS p) a) → ¬ c = (-1) → qUp (I4 89) a (c + 1)) (q1 : qIn (pS p) a → b < 0 → Q (some (.int (-1000000))) (K, I, L, R, sz)) (q2 : qIn (pS p) a → ¬ b < 0 → (-1) ≤ c → ∀ I4 : Nat → Nat → Int32, qLr I p b I4 → (rst (I4 89) (pS p) a) = (-1) → Q (some (.int (-1))) (K, I4, L, R, sz)) (q3 : qIn (pS p) a → ¬ b < 0 → (-1) ≤ c → ∀ I4 : Nat → Nat → Int32, qLr I p b I4 → ¬ (rst (I4 89) (pS p) a) = (-1) → c < (rst (I4 89) (pS p) a) → ¬ c = (-1) → Q (some (.int (hx (I4 89) (Int32.toNatClampNeg (c + 1)) (10 + a)))) (K, I4, L, R, sz)) (q4 : qIn (pS p) a → ¬ b < 0 → (-1) ≤ c → ∀ I4 : Nat → Nat → Int32, qLr I p b I4 → ¬ (rst (I4 89) (pS p) a) = (-1) → c < (rst (I4 89) (pS p) a) → c = (-1) → Q (some (.int (rst (I4 89) (pS p) a))) (K, I4, L, R, sz)) (q5 : qIn (pS p) a → ¬ b < 0 → (-1) ≤ c → ∀ I4 : Nat → Nat → Int32, qLr I p b I4 → ¬ (rst (I4 89) (pS p) a) = (-1) → ¬ c < (rst (I4 89) (pS p) a) → Q (some (.int (-1))) (K, I4, L, R, sz)) (q6 : qIn (pS p) a → ¬ b < 0 → ¬ (-1) ≤ c → Q (some (.int (-1000000))) (K, I, L, R, sz)) (q7 : ¬ qIn (pS p) a → Q (some (.int (-1000000))) (K, I, L, R, sz)) : X (d + 8) 0 0 12096 0 0 0 (qent (qml 12096) [.ref 73, .int a, .int b, .int c]) [] (K, I, L, R, sz) Q := show X _ 0 0 12096 0 0 0 [some (.ref 73), some (.int a), some (.int b), some (.int c), none] [] _ _ from x_ald0 k12096_0 <| x_ild1 k12096_1 <| x_cV1 (MCz := 0) (MSz := 0) k12096_2 v12_311_11 (hK.at rfl) (Nat.le_of_ble_eq_true rfl) (Nat.le_of_ble_eq_true rfl) (Nat.le_refl _) (Nat.le_refl _) <| u12046 hK cI rI (fun g1 => x_ifeqF (tgt := 17) k12096_5 (by decide) (show ¬ (1 : Int32) = 0 by decide) <| x_ild2 k12096_8 <| x_iflt (tgt := 17) k12096_9 (by decide) (fun h2 => x_ldcW k12096_17 c12_317 <| x_iret k12096_20 rfl (Nat.le_refl _) (Nat.le_refl _) <| (q1 g1 h2)) (fun h2 => x_ild3 k12096_12 <| x_iconst (v := (-1)) k12096_13 rfl <| x_icmpge (tgt := 21) k12096_14 (by decide) (fun h3 => x_ald0 k12096_21 <| x_ild2 k12096_22 <| x_cV1 (MCz := 0) (MSz := 0) k12096_23 v12_348_11 (hK.at rfl) (Nat.le_of_ble_eq_true rfl) (Nat.le_of_ble_eq_true rfl) (Nat.le_refl _) (Nat.le_refl _) <| u12059 hK hR cI rI (fun I4 g5 => x_ald0 k12096_26 <| x_ild1 k12096_27 <| x_cV1 (MCz := 0) (MSz := 0) k12096_28 v12_339_11 (hK.at rfl) (Nat.le_of_ble_eq_true rfl) (Nat.le_of_ble_eq_true rfl) (Nat.le_refl _) (Nat.le_refl _) <| v12060 hK hR (b1 g1 h2 h3 I4 g5) (b2 g1 h2 h3 I4 g5) (b3 g1 h2 h3 I4 g5) (b4 g1 h2 h3 I4 g5) (x_ist4 k12096_31 (Nat.le_of_ble_eq_true rfl) rfl <| x_ild4 k12096_33 <| x_iconst (v := (-1)) k12096_35 rfl <| x_icmpeq (tgt := 45) k12096_36 (by decide) (fun h6 => x_iconst (v := (-1)) k12096_45 rfl <| x_goto (tgt := 67) k12096_46 (by decide) <| x_iret k12096_67 rfl (Nat.le_refl _) (Nat.le_refl _) <| (q2 g1 h2 h3 I4 g5 h6)) (fun h6 => x_ild3 k12096_39 <| x_ild4 k12096_40 <| x_icmplt (tgt := 49) k12096_42 (by decide) (fun h7 => x_ild3 k12096_49 <| x_iconst (v := (-1)) k12096_50 rfl <| x_icmpne (tgt := 59) k12096_51 (by decide) (fun h8 => x_ald0 k12096_59 <| x_ild1 k12096_60 <| x_ild3 k12096_61 <| x_iconst (v := 1) k12096_62 rfl <| x_iadd k12096_63 <| x_cV2 (MCz := 0) (MSz := 0) k12096_64 v12_342_11 (hK.at rfl) (Nat.le_of_ble_eq_true rfl) (Nat.le_of_ble_eq_true rfl) (Nat.le_refl _) (Nat.le_refl _) <| u12061 hK hR (b5 g1 h2 h3 I4 g5 h6 h7 h8) (x_iret k12096_67 rfl (Nat.le_refl _) (Nat.le_refl _) <| (q3 g1 h2 h3 I4 g5 h6 h7 h8))) (fun h8 => x_ild4 k12096_54 <| x_goto (tgt := 67) k12096_56 (by decide) <| x_iret k12096_67 rfl (Nat.le_refl _) (Nat.le_refl _) <| (q4 g1 h2 h3 I4 g5 h6 h7 h8))) (fun h7 => x_iconst (v := (-1)) k12096_45 rfl <| x_goto (tgt := 67) k12096_46 (by decide) <| x_iret k12096_67 rfl (Nat.le_refl _) (Nat.le_refl _) <| (q5 g1 h2 h3 I4 g5 h6 h7)))))) (fun h3 => x_ldcW k12096_17 c12_317 <| x_iret k12096_20 rfl (Nat.le_refl _) (Nat.le_refl _) <| (q6 g1 h2 h3)))) (fun g9 => x_ifeqT (tgt := 17) k12096_5 (by decide) (show (0 : Int32) = 0 by decide) <| x_ldcW k12096_17 c12_317 <| x_iret k12096_20 rfl (Nat.le_refl _) (Nat.le_refl _) <| (q7 g9))
theorem e11016 {a : Int32} {b : Int32}  (hK : qLay K sz) (hR : qRef R) (cI : CI I p)  (q1 : b = 0 ∨ b = 1 → 0 ≤ a → ∀ I3 : Nat → Nat → Int32, qLk I p a I3 → X (d + 7) 0 0 11016 0 0 26 [some (.ref 0), some (.int a), some (.int b), some (.int 0), some (.int (-1)), some (.int 0), none] [] (K, I3, L, R, sz) Q) (q2 : b = 0 ∨ b = 1 → ¬ 0 ≤ a → Q (some (.int (-1))) (K, I, L, R, sz)) (q3 : ¬ (b = 0 ∨ b = 1) → Q (some (.int (-1))) (K, I, L, R, sz)) : X (d + 7) 0 0 11016 0 0 0 (qent (qml 11016) [.ref 0, .int a, .int b]) [] (K, I, L, R, sz) Q := show X _ 0 0 11016 0 0 0 [some (.ref 0), some (.int a), some (.int b), none, none, none, none] [] _ _ from x_ild2 k11016_0 <| x_cS1 (MCz := 0) (MSz := 0) k11016_1 s11_212 (Nat.le_of_ble_eq_true rfl) (Nat.le_of_ble_eq_true rfl) (Nat.le_refl _) (Nat.le_refl _) <| s11041 (fun g1 => x_ifeqF (tgt := 11) k11016_4 (by decide) (show ¬ (1 : Int32) = 0 by decide) <| x_ild1 k11016_7 <| x_ifge (tgt := 13) k11016_8 (by decide) (fun h2 => x_ald0 k11016_13 <| x_ild1 k11016_14 <| x_cV1 (MCz := 0) (MSz := 0) k11016_15 v11_196_10 (hK.at rfl) (Nat.le_of_ble_eq_true rfl) (Nat.le_of_ble_eq_true rfl) (Nat.le_refl _) (Nat.le_refl _) <| u11044 hK hR cI (fun I3 g4 => x_iconst (v := 0) k11016_18 rfl <| x_ist3 k11016_19 (Nat.le_of_ble_eq_true rfl) rfl <| x_iconst (v := (-1)) k11016_20 rfl <| x_ist4 k11016_21 (Nat.le_of_ble_eq_true rfl) rfl <| x_iconst (v := 0) k11016_23 rfl <| x_ist5 k11016_24 (Nat.le_of_ble_eq_true rfl) rfl <| (q1 g1 h2 I3 g4))) (fun h2 => x_iconst (v := (-1)) k11016_11 rfl <| x_iret k11016_12 rfl (Nat.le_refl _) (Nat.le_refl _) <| (q2 g1 h2))) (fun g5 => x_ifeqT (tgt := 11) k11016_4 (by decide) (show (0 : Int32) = 0 by decide) <| x_iconst (v := (-1)) k11016_11 rfl <| x_iret k11016_12 rfl (Nat.le_refl _) (Nat.le_refl _) <| (q3 g5))
theorem g11016_26 {x1 : Int32} {x2 : Int32} {x3 : Int32} {x4 : Int32} {x5 : Int32}  (hK : qLay K sz) (hR : qRef R) (b1 : ¬ (I 22 1) ≤ x5 → I 69 2 = nI (pS p)) (b2 : ¬ (I 22 1) ≤ x5 → pS p ≤ 5) (q1 : (I 22 1) ≤ x5 → x4 = (-1) → Q (some (.int x4)) (K, I, L, R, sz)) (q2 : (I 22 1) ≤ x5 → ¬ x4 = (-1) → ¬ x2 = 0 → Q (some (.int x3)) (K, I, L, R, sz)) (q3 : (I 22 1) ≤ x5 → ¬ x4 = (-1) → x2 = 0 → Q (some (.int x4)) (K, I, L, R, sz)) (q4 : ¬ (I 22 1) ≤ x5 → (cst (I 70) (pS p) x5) ≤ x3 → X (d + 3) 0 0 11016 0 0 26 [some (.ref 0), some (.int x1), some (.int x2), some (.int x3), some (.int x4), some (.int (x5 + 1)), none] [] (K, I, L, R, sz) Q) (q5 : ¬ (I 22 1) ≤ x5 → ¬ (cst (I 70) (pS p) x5) ≤ x3 → X (d + 3) 0 0 11016 0 0 26 [some (.ref 0), some (.int x1), some (.int x2), some (.int (cst (I 70) (pS p) x5)), some (.int x5), some (.int (x5 + 1)), none] [] (K, I, L, R, sz) Q) : X (d + 3) 0 0 11016 0 0 26 [some (.ref 0), some (.int x1), some (.int x2), some (.int x3), some (.int x4), some (.int x5), none] [] (K, I, L, R, sz) Q := x_ild5 k11016_26 <| x_ald0 k11016_28 <| x_getR k11016_29 f11_35_10 (hK.at rfl) rfl (hR _ _ _ rfl) <| x_getI k11016_32 f11_118_1 (hK.at rfl) rfl <| x_icmpge (tgt := 68) k11016_35 (by decide) (fun h1 => x_ild4 k11016_68 <| x_iconst (v := (-1)) k11016_70 rfl <| x_icmpeq (tgt := 78) k11016_71 (by decide) (fun h2 => x_ild4 k11016_78 <| x_goto (tgt := 84) k11016_80 (by decide) <| x_iret k11016_84 rfl (Nat.le_refl _) (Nat.le_refl _) <| (q1 h1 h2)) (fun h2 => x_ild2 k11016_74 <| x_ifne (tgt := 83) k11016_75 (by decide) (fun h3 => x_ild3 k11016_83 <| x_iret k11016_84 rfl (Nat.le_refl _) (Nat.le_refl _) <| (q2 h1 h2 h3)) (fun h3 => x_ild4 k11016_78 <| x_goto (tgt := 84) k11016_80 (by decide) <| x_iret k11016_84 rfl (Nat.le_refl _) (Nat.le_refl _) <| (q3 h1 h2 h3)))) (fun h1 => x_ald0 k11016_38 <| x_getR k11016_39 f11_73_10 (hK.at rfl) rfl (hR _ _ _ rfl) <| x_ild5 k11016_42 <| x_cV1 (MCz := 0) (MSz := 0) k11016_44 v11_215_5 (hK.at rfl) (Nat.le_of_ble_eq_true rfl) (Nat.le_of_ble_eq_true rfl) (Nat.le_refl _) (Nat.le_refl _) <| u5003 hK hR (b1 h1) (b2 h1) (x_ist6 k11016_47 (Nat.le_of_ble_eq_true rfl) rfl <| x_ild6 k11016_49 <| x_ild3 k11016_51 <| x_icmple (tgt := 62) k11016_52 (by decide) (fun h4 => x_inc5 (c := 1) k11016_62 rfl (Nat.le_of_ble_eq_true rfl) rfl <| x_goto (tgt := 26) k11016_65 (by decide) <| x_wk (ls := [some (.ref 0), some (.int x1), some (.int x2), some (.int x3), some (.int x4), some (.int (x5 + 1)), none]) ⟨rfl, ⟨rfl, ⟨rfl, ⟨rfl, ⟨rfl, ⟨rfl, True.intro⟩⟩⟩⟩⟩⟩ <| (q4 h1 h4)) (fun h4 => x_ild6 k11016_55 <| x_ist3 k11016_57 (Nat.le_of_ble_eq_true rfl) rfl <| x_ild5 k11016_58 <| x_ist4 k11016_60 (Nat.le_of_ble_eq_true rfl) rfl <| x_inc5 (c := 1) k11016_62 rfl (Nat.le_of_ble_eq_true rfl) rfl <| x_goto (tgt := 26) k11016_65 (by decide) <| x_wk (ls := [some (.ref 0), some (.int x1), some (.int x2), some (.int (cst (I 70) (pS p) x5)), some (.int x5), some (.int (x5 + 1)), none]) ⟨rfl, ⟨rfl, ⟨rfl, ⟨rfl, ⟨rfl, ⟨rfl, True.intro⟩⟩⟩⟩⟩⟩ <| (q5 h1 h4))))
theorem e12068 {a : Int32} {b : Int32}  (hK : qLay K sz) (hR : qRef R) (cI : CI I p) (rI : RI I p)  (q1 : (I 73 24) = 0 → Q (some (.int (-1))) (K, I, L, R, sz)) (q2 : ¬ (I 73 24) = 0 → a < 0 → Q (some (.int (-1))) (K, I, L, R, sz)) (q3 : ¬ (I 73 24) = 0 → ¬ a < 0 → 0 ≤ b → b ≤ 1 → ∀ I5 : Nat → Nat → Int32, qLr I p a I5 → X (d + 8) 0 0 12068 0 0 32 [some (.ref 73), some (.int a), some (.int b), some (.int (-1)), some (.int 0)] [] (K, I5, L, R, sz) Q) (q4 : ¬ (I 73 24) = 0 → ¬ a < 0 → ¬ (0 ≤ b ∧ b ≤ 1) → Q (some (.int (-1))) (K, I, L, R, sz)) : X (d + 8) 0 0 12068 0 0 0 (qent (qml 12068) [.ref 73, .int a, .int b]) [] (K, I, L, R, sz) Q := show X _ 0 0 12068 0 0 0 [some (.ref 73), some (.int a), some (.int b), none, none] [] _ _ from x_ald0 k12068_0 <| x_getI k12068_1 f12_289_11 (hK.at rfl) rfl <| x_ifeq (tgt := 20) k12068_4 (by decide) (fun h1 => x_iconst (v := (-1)) k12068_20 rfl <| x_iret k12068_21 rfl (Nat.le_refl _) (Nat.le_refl _) <| (q1 h1)) (fun h1 => x_ild1 k12068_7 <| x_iflt (tgt := 20) k12068_8 (by decide) (fun h2 => x_iconst (v := (-1)) k12068_20 rfl <| x_iret k12068_21 rfl (Nat.le_refl _) (Nat.le_refl _) <| (q2 h1 h2)) (fun h2 => x_ild2 k12068_11 <| x_iconst (v := 0) k12068_12 rfl <| x_iconst (v := 1) k12068_13 rfl <| x_cS3 (MCz := 0) (MSz := 0) k12068_14 s12_231 (Nat.le_of_ble_eq_true rfl) (Nat.le_of_ble_eq_true rfl) (Nat.le_refl _) (Nat.le_refl _) <| t12000 (fun g3 g4 => x_ifneT (tgt := 22) k12068_17 (by decide) (show ¬ (1 : Int32) = 0 by decide) <| x_ald0 k12068_22 <| x_ild1 k12068_23 <| x_cV1 (MCz := 0) (MSz := 0) k12068_24 v12_348_11 (hK.at rfl) (Nat.le_of_ble_eq_true rfl) (Nat.le_of_ble_eq_true rfl) (Nat.le_refl _) (Nat.le_refl _) <| u12059 hK hR cI rI (fun I5 g6 => x_iconst (v := (-1)) k12068_27 rfl <| x_ist3 k12068_28 (Nat.le_of_ble_eq_true rfl) rfl <| x_iconst (v := 0) k12068_29 rfl <| x_ist4 k12068_30 (Nat.le_of_ble_eq_true rfl) rfl <| (q3 h1 h2 g3 g4 I5 g6))) (fun g7 => x_ifneF (tgt := 22) k12068_17 (by decide) (show (0 : Int32) = 0 by decide) <| x_iconst (v := (-1)) k12068_20 rfl <| x_iret k12068_21 rfl (Nat.le_refl _) (Nat.le_refl _) <| (q4 h1 h2 g7))))
theorem g12068_32 {x1 : Int32} {x2 : Int32} {x3 : Int32} {x4 : Int32}  (hK : qLay K sz) (hR : qRef R) (b1 : (I 73 24) ≤ x4 → ¬ x3 = (-1) → ¬ x2 = 0 → I 73 24 = nI (pS p)) (b2 : (I 73 24) ≤ x4 → ¬ x3 = (-1) → ¬ x2 = 0 → pS p ≤ 5) (b3 : (I 73 24) ≤ x4 → ¬ x3 = (-1) → ¬ x2 = 0 → qVal (I 89) (pS p)) (b4 : (I 73 24) ≤ x4 → ¬ x3 = (-1) → ¬ x2 = 0 → qIn (pS p) x3) (b5 : ¬ (I 73 24) ≤ x4 → I 73 24 = nI (pS p)) (b6 : ¬ (I 73 24) ≤ x4 → pS p ≤ 5) (b7 : ¬ (I 73 24) ≤ x4 → qVal (I 89) (pS p)) (b8 : ¬ (I 73 24) ≤ x4 → qIn (pS p) x4) (b9 : ¬ (I 73 24) ≤ x4 → ¬ (rst (I 89) (pS p) x4) = (-1) → ¬ x3 = (-1) → qIn (pS p) x3) (q1 : (I 73 24) ≤ x4 → x3 = (-1) → Q (some (.int x3)) (K, I, L, R, sz)) (q2 : (I 73 24) ≤ x4 → ¬ x3 = (-1) → ¬ x2 = 0 → Q (some (.int (rst (I 89) (pS p) x3))) (K, I, L, R, sz)) (q3 : (I 73 24) ≤ x4 → ¬ x3 = (-1) → x2 = 0 → Q (some (.int x3)) (K, I, L, R, sz)) (q4 : ¬ (I 73 24) ≤ x4 → (rst (I 89) (pS p) x4) = (-1) → X (d + 1) 0 0 12068 0 0 32 [some (.ref 73), some (.int x1), some (.int x2), some (.int x3), some (.int (x4 + 1))] [] (K, I, L, R, sz) Q) (q5 : ¬ (I 73 24) ≤ x4 → ¬ (rst (I 89) (pS p) x4) = (-1) → x3 = (-1) → X (d + 1) 0 0 12068 0 0 32 [some (.ref 73), some (.int x1), some (.int x2), some (.int x4), some (.int (x4 + 1))] [] (K, I, L, R, sz) Q) (q6 : ¬ (I 73 24) ≤ x4 → ¬ (rst (I 89) (pS p) x4) = (-1) → ¬ x3 = (-1) → (rst (I 89) (pS p) x4) ≤ (rst (I 89) (pS p) x3) → X (d + 1) 0 0 12068 0 0 32 [some (.ref 73), some (.int x1), some (.int x2), some (.int x3), some (.int (x4 + 1))] [] (K, I, L, R, sz) Q) (q7 : ¬ (I 73 24) ≤ x4 → ¬ (rst (I 89) (pS p) x4) = (-1) → ¬ x3 = (-1) → ¬ (rst (I 89) (pS p) x4) ≤ (rst (I 89) (pS p) x3) → X (d + 1) 0 0 12068 0 0 32 [some (.ref 73), some (.int x1), some (.int x2), some (.int x4), some (.int (x4 + 1))] [] (K, I, L, R, sz) Q) : X (d + 1) 0 0 12068 0 0 32 [some (.ref 73), some (.int x1), some (.int x2), some (.int x3), some (.int x4)] [] (K, I, L, R, sz) Q := x_ild4 k12068_32 <| x_ald0 k12068_34 <| x_getI k12068_35 f12_289_11 (hK.at rfl) rfl <| x_icmpge (tgt := 83) k12068_38 (by decide) (fun h1 => x_ild3 k12068_83 <| x_iconst (v := (-1)) k12068_84 rfl <| x_icmpeq (tgt := 92) k12068_85 (by decide) (fun h2 => x_ild3 k12068_92 <| x_goto (tgt := 101) k12068_93 (by decide) <| x_iret k12068_101 rfl (Nat.le_refl _) (Nat.le_refl _) <| (q1 h1 h2)) (fun h2 => x_ild2 k12068_88 <| x_ifne (tgt := 96) k12068_89 (by decide) (fun h3 => x_ald0 k12068_96 <| x_ild3 k12068_97 <| x_cV1 (MCz := 0) (MSz := 0) k12068_98 v12_339_11 (hK.at rfl) (Nat.le_of_ble_eq_true rfl) (Nat.le_of_ble_eq_true rfl) (Nat.le_refl _) (Nat.le_refl _) <| v12060 hK hR (b1 h1 h2 h3) (b2 h1 h2 h3) (b3 h1 h2 h3) (b4 h1 h2 h3) (x_iret k12068_101 rfl (Nat.le_refl _) (Nat.le_refl _) <| (q2 h1 h2 h3))) (fun h3 => x_ild3 k12068_92 <| x_goto (tgt := 101) k12068_93 (by decide) <| x_iret k12068_101 rfl (Nat.le_refl _) (Nat.le_refl _) <| (q3 h1 h2 h3)))) (fun h1 => x_ald0 k12068_41 <| x_ild4 k12068_42 <| x_cV1 (MCz := 0) (MSz := 0) k12068_44 v12_339_11 (hK.at rfl) (Nat.le_of_ble_eq_true rfl) (Nat.le_of_ble_eq_true rfl) (Nat.le_refl _) (Nat.le_refl _) <| v12060 hK hR (b5 h1) (b6 h1) (b7 h1) (b8 h1) (x_iconst (v := (-1)) k12068_47 rfl <| x_icmpeq (tgt := 75) k12068_48 (by decide) (fun h4 => x_ild3 k12068_75 <| x_ist3 k12068_76 (Nat.le_of_ble_eq_true rfl) rfl <| x_inc4 (c := 1) k12068_77 rfl (Nat.le_of_ble_eq_true rfl) rfl <| x_goto (tgt := 32) k12068_80 (by decide) <| (q4 h1 h4)) (fun h4 => x_ild3 k12068_51 <| x_iconst (v := (-1)) k12068_52 rfl <| x_icmpeq (tgt := 70) k12068_53 (by decide) (fun h5 => x_ild4 k12068_70 <| x_goto (tgt := 76) k12068_72 (by decide) <| x_ist3 k12068_76 (Nat.le_of_ble_eq_true rfl) rfl <| x_inc4 (c := 1) k12068_77 rfl (Nat.le_of_ble_eq_true rfl) rfl <| x_goto (tgt := 32) k12068_80 (by decide) <| (q5 h1 h4 h5)) (fun h5 => x_ald0 k12068_56 <| x_ild4 k12068_57 <| x_cV1 (MCz := 0) (MSz := 0) k12068_59 v12_339_11 (hK.at rfl) (Nat.le_of_ble_eq_true rfl) (Nat.le_of_ble_eq_true rfl) (Nat.le_refl _) (Nat.le_refl _) <| v12060 hK hR (b5 h1) (b6 h1) (b7 h1) (b8 h1) (x_ald0 k12068_62 <| x_ild3 k12068_63 <| x_cV1 (MCz := 0) (MSz := 0) k12068_64 v12_339_11 (hK.at rfl) (Nat.le_of_ble_eq_true rfl) (Nat.le_of_ble_eq_true rfl) (Nat.le_refl _) (Nat.le_refl _) <| v12060 hK hR (b5 h1) (b6 h1) (b7 h1) (b9 h1 h4 h5) (x_icmple (tgt := 75) k12068_67 (by decide) (fun h6 => x_ild3 k12068_75 <| x_ist3 k12068_76 (Nat.le_of_ble_eq_true rfl) rfl <| x_inc4 (c := 1) k12068_77 rfl (Nat.le_of_ble_eq_true rfl) rfl <| x_goto (tgt := 32) k12068_80 (by decide) <| (q6 h1 h4 h5 h6)) (fun h6 => x_ild4 k12068_70 <| x_goto (tgt := 76) k12068_72 (by decide) <| x_ist3 k12068_76 (Nat.le_of_ble_eq_true rfl) rfl <| x_inc4 (c := 1) k12068_77 rfl (Nat.le_of_ble_eq_true rfl) rfl <| x_goto (tgt := 32) k12068_80 (by decide) <| (q7 h1 h4 h5 h6))))))))
theorem qP_up {c : Int32} {m : Nat} (hm : m ≤ 6) (h1 : -1 ≤ c) (h2 : c < nI m) : ∃ k, k ≤ m ∧ c + 1 = nI k := by
  rw [i_le] at h1
  rw [i_lt, nI_i (by omega)] at h2
  have e1 : (-1 : Int32).toInt = -1 := rfl
  refine ⟨(c.toInt + 1).toNat, by omega, ?_⟩
  rw [i_eq, Int32.toInt_add, nI_i (by omega), Int.bmod_eq_of_le (by have e2 : (1 : Int32).toInt = 1 := rfl; omega) (by have e2 : (1 : Int32).toInt = 1 := rfl; omega)]
  have e2 : (1 : Int32).toInt = 1 := rfl
  omega
theorem s11029 {a b c : Int32} (hK : qLay K sz) (hR : qRef R) (cI : CI I p) (hq : ∀ J, qAf I p J → Q (some (.int (fPath (LEn I p) p a b c))) (K, J, L, R, sz)) : X (d + 7) 0 0 11029 0 0 0 (qent (qml 11029) [.ref 0, .int a, .int b, .int c]) [] (K, I, L, R, sz) Q := by
  unfold fPath at hq
  have hc : ∀ J, qLk I p b J → ∀ s, s < pS p → cst (J 70) (pS p) (nI s) = cst (LEn I p b) (pS p) (nI s) := fun J hJ s hs => cst_cong (LEn_val cI b) hs cI.w5 (hJ.le5 cI)
  have w5 := cI.w5
  refine t11029 (p := p) hK hR cI (fun _ _ _ J hJ => hJ.2.1) (fun _ _ _ J hJ => w5) (fun h1 h2 h3 J hJ h4 h5 _ => ?_) ?_ ?_ ?_ ?_ ?_ ?_ ?_
  · obtain ⟨s, hs, rfl⟩ := h1
    rw [hc J hJ s hs] at h4 h5
    rcases cst_eq (f := LEn I p b) (s := s) (by omega) w5 with ⟨_, e⟩ | ⟨e1, e2, _, _⟩
    · exact absurd e h4
    · obtain ⟨m, a1, a2, a3⟩ := rst_pos (by omega) w5 e1
      rw [e2, a3] at h5
      obtain ⟨k, b1, b2⟩ := qP_up a2 h3 h5
      exact ⟨k, by omega, b2⟩
  · intro h1 h2
    have := hq I (qAf.refl cI)
    rw [if_neg (fun q => q.2.1 h2)] at this
    exact this
  · intro h1 h2 h3 J hJ h4
    have := hq J (hJ.af cI)
    rw [if_pos ⟨h1, h2, h3⟩] at this
    obtain ⟨s, hs, rfl⟩ := h1
    rw [hc J hJ s hs] at h4
    rcases cst_eq (f := LEn I p b) (s := s) (by omega) w5 with ⟨e, _⟩ | ⟨_, _, e2, _⟩
    · rw [if_pos (Or.inl e)] at this; exact this
    · exact absurd h4 e2
  · intro h1 h2 h3 J hJ h4 h5 h6
    have := hq J (hJ.af cI)
    rw [if_pos ⟨h1, h2, h3⟩] at this
    obtain ⟨s, hs, rfl⟩ := h1
    rw [hc J hJ s hs] at h4 h5
    rcases cst_eq (f := LEn I p b) (s := s) (by omega) w5 with ⟨_, e⟩ | ⟨e1, e2, _, _⟩
    · exact absurd e h4
    · rw [e2] at h5
      rw [if_neg (fun q => q.elim e1 (fun w => w h5)), if_neg h6, q_10p] at this
      rw [q_10p, hx_cong (LEn_val cI b) hs w5 (hJ.le5 cI)]
      exact this
  · intro h1 h2 h3 J hJ h4 h5 h6
    have := hq J (hJ.af cI)
    rw [if_pos ⟨h1, h2, h3⟩] at this
    obtain ⟨s, hs, rfl⟩ := h1
    rw [hc J hJ s hs] at h4 h5 ⊢
    rcases cst_eq (f := LEn I p b) (s := s) (by omega) w5 with ⟨_, e⟩ | ⟨e1, e2, _, _⟩
    · exact absurd e h4
    · rw [e2] at h5
      rw [if_neg (fun q => q.elim e1 (fun w => w h5)), if_pos h6] at this
      rw [e2]
      exact this
  · intro h1 h2 h3 J hJ h4 h5
    have := hq J (hJ.af cI)
    rw [if_pos ⟨h1, h2, h3⟩] at this
    obtain ⟨s, hs, rfl⟩ := h1
    rw [hc J hJ s hs] at h4 h5
    rcases cst_eq (f := LEn I p b) (s := s) (by omega) w5 with ⟨_, e⟩ | ⟨e1, e2, _, _⟩
    · exact absurd e h4
    · rw [e2] at h5
      rw [if_pos (Or.inr h5)] at this
      exact this
  · intro h1 h2 h3
    have := hq I (qAf.refl cI)
    rw [if_neg (fun q => h3 q.2.2)] at this
    exact this
  · intro h1
    have := hq I (qAf.refl cI)
    rw [if_neg (fun q => h1 q.1)] at this
    exact this
theorem s12096 {a b c : Int32} (hK : qLay K sz) (hR : qRef R) (cI : CI I p) (rI : RI I p) (hq : ∀ J, qAf I p J → Q (some (.int (fPath (LEn I p) p a b c))) (K, J, L, R, sz)) : X (d + 8) 0 0 12096 0 0 0 (qent (qml 12096) [.ref 73, .int a, .int b, .int c]) [] (K, I, L, R, sz) Q := by
  unfold fPath at hq
  have hc : ∀ J, qLr I p b J → ∀ s, s < pS p → rst (J 89) (pS p) (nI s) = rst (LEn I p b) (pS p) (nI s) := fun J hJ s hs => rst_cong (LEn_val cI b) hs cI.w5 hJ.2.1
  have w5 := cI.w5
  refine t12096 hK hR cI rI (fun _ _ _ J hJ => ?_) (fun _ _ _ J hJ => w5) (fun _ _ _ J hJ => hJ.val cI) (fun h1 _ _ _ _ => h1) (fun h1 h2 h3 J hJ h4 h5 _ => ?_) ?_ ?_ ?_ ?_ ?_ ?_ ?_
  · rw [hJ.1 _ _ (scN_no (by omega) _)]; exact rI.mS cI
  · have h4' := h4
    obtain ⟨s, hs, rfl⟩ := h1
    obtain ⟨m, a1, a2, a3⟩ := rst_pos (by omega) w5 h4
    obtain ⟨-, h7, -⟩ := sx_spec (f := J 89) (pS p + 1) (10 + nI s)
    obtain ⟨-, -, -, e⟩ := rst_up w5 h4
    have h6 := (sx_spec (f := J 89) (pS p + 1) (10 + nI s)).1
    have a4 := a3
    rw [e, nI_eq (by omega) (by omega)] at a4
    rw [a3] at h5
    obtain ⟨k, b1, b2⟩ := qP_up a2 h3 h5
    exact ⟨k, by omega, b2, fun j hj => h7 j (by omega)⟩
  · intro h1 h2
    have := hq I (qAf.refl cI)
    rw [if_neg (fun q => q.2.1 h2)] at this
    exact this
  · intro h1 h2 h3 J hJ h4
    have := hq J (hJ.af cI)
    rw [if_pos ⟨h1, h2, h3⟩] at this
    obtain ⟨s, hs, rfl⟩ := h1
    rw [hc J hJ s hs] at h4
    rw [if_pos (Or.inl h4)] at this
    exact this
  · intro h1 h2 h3 J hJ h4 h5 h6
    have := hq J (hJ.af cI)
    rw [if_pos ⟨h1, h2, h3⟩] at this
    obtain ⟨s, hs, rfl⟩ := h1
    rw [hc J hJ s hs] at h4 h5
    rw [if_neg (fun q => q.elim h4 (fun w => w h5)), if_neg h6, q_10p] at this
    rw [q_10p, hx_cong (LEn_val cI b) hs w5 hJ.2.1]
    exact this
  · intro h1 h2 h3 J hJ h4 h5 h6
    have := hq J (hJ.af cI)
    rw [if_pos ⟨h1, h2, h3⟩] at this
    obtain ⟨s, hs, rfl⟩ := h1
    rw [hc J hJ s hs] at h4 h5 ⊢
    rw [if_neg (fun q => q.elim h4 (fun w => w h5)), if_pos h6] at this
    exact this
  · intro h1 h2 h3 J hJ h4 h5
    have := hq J (hJ.af cI)
    rw [if_pos ⟨h1, h2, h3⟩] at this
    obtain ⟨s, hs, rfl⟩ := h1
    rw [hc J hJ s hs] at h4 h5
    rw [if_pos (Or.inr h5)] at this
    exact this
  · intro h1 h2 h3
    have := hq I (qAf.refl cI)
    rw [if_neg (fun q => h3 q.2.2)] at this
    exact this
  · intro h1
    have := hq I (qAf.refl cI)
    rw [if_neg (fun q => h1 q.1)] at this
    exact this
theorem l11016 {x1 x2 : Int32} (hK : qLay K sz) (hR : qRef R) (lS : I 22 1 = nI (pS p)) (hn : I 69 2 = nI (pS p)) (w5 : pS p ≤ 5) (hq : Q (some (.int (if (lgw (I 70) (pS p) (pS p)).2 = -1 ∨ x2 = 0 then (lgw (I 70) (pS p) (pS p)).2 else (lgw (I 70) (pS p) (pS p)).1))) (K, I, L, R, sz)) : ∀ (k i : Nat), i + k = pS p → X (d + 3) 0 0 11016 0 0 26 [some (.ref 0), some (.int x1), some (.int x2), some (.int (lgw (I 70) (pS p) i).1), some (.int (lgw (I 70) (pS p) i).2), some (.int (nI i)), none] [] (K, I, L, R, sz) Q := by
  intro k
  induction k with
  | zero =>
    intro i hi
    have hle : I 22 1 ≤ nI i := by rw [lS]; exact nI_le (by omega) (by omega)
    have : i = pS p := by omega
    subst this
    refine g11016_26 (p := p) hK hR (fun h => absurd hle h) (fun h => absurd hle h) (fun _ h1 => ?_) (fun _ h1 h2 => ?_) (fun _ h1 h2 => ?_) (fun h => absurd hle h) (fun h => absurd hle h)
    · rw [if_pos (Or.inl h1)] at hq; exact hq
    · rw [if_neg (fun q => q.elim h1 h2)] at hq; exact hq
    · rw [if_pos (Or.inr h2)] at hq; exact hq
  | succ k ih =>
    intro i hi
    have hnl : ¬ I 22 1 ≤ nI i := by rw [lS]; exact nI_ge (by omega) (by omega)
    have ih' := ih (i + 1) (by omega)
    refine g11016_26 (p := p) hK hR (fun _ => hn) (fun _ => w5) (fun h => absurd h hnl) (fun h => absurd h hnl) (fun h => absurd h hnl) (fun _ h1 => ?_) (fun _ h1 => ?_)
    · rw [lgw, if_neg (fun q => by rw [i_lt] at q; rw [i_le] at h1; omega)] at ih'
      rw [nI_1]; exact ih'
    · rw [lgw, if_pos (by rw [i_lt]; rw [i_le] at h1; omega)] at ih'
      rw [nI_1]; exact ih'
theorem s11016 {a b : Int32} (hK : qLay K sz) (hR : qRef R) (cI : CI I p) (hq : ∀ J, qAf I p J → Q (some (.int (fLongest (LEn I p) p a b))) (K, J, L, R, sz)) : X (d + 7) 0 0 11016 0 0 0 (qent (qml 11016) [.ref 0, .int a, .int b]) [] (K, I, L, R, sz) Q := by
  unfold fLongest at hq
  refine e11016 hK hR cI (fun h1 h2 J hJ => ?_) (fun h1 h2 => ?_) (fun h1 => ?_)
  · have := hq J (hJ.af cI)
    rw [if_pos ⟨h1, h2⟩] at this
    have hc := lgw_cong (LEn_val cI a) cI.w5 (hJ.le5 cI) (pS p) (Nat.le_refl _)
    rw [← hc] at this
    exact l11016 (d := d + 4) hK hR (by rw [hJ.1 _ _ (scV_no (by omega) _)]; exact cI.lS) hJ.2.1 cI.w5 this (pS p) 0 (by omega)
  · have := hq I (qAf.refl cI)
    rw [if_neg (fun q => h2 q.2)] at this
    exact this
  · have := hq I (qAf.refl cI)
    rw [if_neg (fun q => h1 q.1)] at this
    exact this
theorem l12068 {x1 x2 : Int32} (hK : qLay K sz) (hR : qRef R) (mS : I 73 24 = nI (pS p)) (w5 : pS p ≤ 5) (hv : qVal (I 89) (pS p)) (hq : Q (some (.int (if (lgw (I 89) (pS p) (pS p)).2 = -1 ∨ x2 = 0 then (lgw (I 89) (pS p) (pS p)).2 else (lgw (I 89) (pS p) (pS p)).1))) (K, I, L, R, sz)) : ∀ (k i : Nat), i + k = pS p → X (d + 1) 0 0 12068 0 0 32 [some (.ref 73), some (.int x1), some (.int x2), some (.int (lgw (I 89) (pS p) i).2), some (.int (nI i))] [] (K, I, L, R, sz) Q := by
  intro k
  induction k with
  | zero =>
    intro i hi
    have hle : I 73 24 ≤ nI i := by rw [mS]; exact nI_le (by omega) (by omega)
    have : i = pS p := by omega
    subst this
    have hinv := lgw_inv (f := I 89) w5 (pS p) (Nat.le_refl _)
    have hin : ¬ (lgw (I 89) (pS p) (pS p)).2 = -1 → qIn (pS p) (lgw (I 89) (pS p) (pS p)).2 := fun h => by
      rcases hinv with ⟨e, _⟩ | ⟨k, hk, e, _⟩
      · exact absurd e h
      · exact ⟨k, hk, e⟩
    refine g12068_32 (p := p) hK hR (fun _ _ _ => mS) (fun _ _ _ => w5) (fun _ _ _ => hv) (fun _ h _ => hin h) (fun h => absurd hle h) (fun h => absurd hle h) (fun h => absurd hle h) (fun h => absurd hle h) (fun h => absurd hle h) (fun _ h1 => ?_) (fun _ h1 h2 => ?_) (fun _ h1 h2 => ?_) (fun h => absurd hle h) (fun h => absurd hle h) (fun h => absurd hle h) (fun h => absurd hle h)
    · rw [if_pos (Or.inl h1)] at hq; exact hq
    · rw [if_neg (fun q => q.elim h1 h2)] at hq
      rcases hinv with ⟨e, _⟩ | ⟨k, hk, e, _, e2⟩
      · exact absurd e h1
      · rw [e2, ← e] at hq; exact hq
    · rw [if_pos (Or.inr h2)] at hq; exact hq
  | succ k ih =>
    intro i hi
    have hnl : ¬ I 73 24 ≤ nI i := by rw [mS]; exact nI_ge (by omega) (by omega)
    have ih' := ih (i + 1) (by omega)
    have hinv := lgw_inv (f := I 89) w5 i (by omega)
    have hin : ¬ (lgw (I 89) (pS p) i).2 = -1 → qIn (pS p) (lgw (I 89) (pS p) i).2 := fun h => by
      rcases hinv with ⟨e, _⟩ | ⟨k, hk, e, _⟩
      · exact absurd e h
      · exact ⟨k, by omega, e⟩
    have hce := cst_eq (f := I 89) (s := i) (by omega) w5
    refine g12068_32 (p := p) hK hR (fun h => absurd h hnl) (fun h => absurd h hnl) (fun h => absurd h hnl) (fun h => absurd h hnl) (fun _ => mS) (fun _ => w5) (fun _ => hv) (fun _ => ⟨i, by omega, rfl⟩) (fun _ _ h => hin h) (fun h => absurd h hnl) (fun h => absurd h hnl) (fun h => absurd h hnl) (fun _ h1 => ?_) (fun _ h1 h2 => ?_) (fun _ h1 h2 h3 => ?_) (fun _ h1 h2 h3 => ?_)
    · rw [lgw, if_neg ?_] at ih'
      · rw [nI_1]; exact ih'
      · intro q
        rcases hce with ⟨_, e⟩ | ⟨e, _⟩
        · rw [e, i_lt] at q
          have e0 : (0 : Int32).toInt = 0 := rfl
          rcases hinv with ⟨_, e1⟩ | ⟨k, hk, _, e1, e2⟩
          · rw [e1] at q; omega
          · obtain ⟨m, a1, a2, a3⟩ := rst_pos (by omega) w5 e1
            rw [e2, a3, nI_i (by omega)] at q; omega
        · exact e h1
    · rw [lgw, if_pos ?_] at ih'
      · rw [nI_1]; exact ih'
      · rcases hce with ⟨e, _⟩ | ⟨_, _, _, e⟩
        · exact absurd e h1
        · rcases hinv with ⟨_, e1⟩ | ⟨k, hk, e1, _⟩
          · rw [e1]; exact e
          · rw [e1] at h2; exact absurd h2 (nI_m1 (by omega))
    · rw [lgw, if_neg ?_] at ih'
      · rw [nI_1]; exact ih'
      · rcases hce with ⟨e, _⟩ | ⟨_, e, _, _⟩
        · exact absurd e h1
        · rcases hinv with ⟨e1, _⟩ | ⟨k, hk, e1, _, e2⟩
          · exact absurd e1 h2
          · rw [e1] at h3
            rw [e, e2, i_lt]
            rw [i_le] at h3
            omega
    · rw [lgw, if_pos ?_] at ih'
      · rw [nI_1]; exact ih'
      · rcases hce with ⟨e, _⟩ | ⟨_, e, _, _⟩
        · exact absurd e h1
        · rcases hinv with ⟨e1, _⟩ | ⟨k, hk, e1, _, e2⟩
          · exact absurd e1 h2
          · rw [e1] at h3
            rw [e, e2, i_lt]
            rw [i_le] at h3
            omega
theorem s12068 {a b : Int32} (hK : qLay K sz) (hR : qRef R) (cI : CI I p) (rI : RI I p) (hq : ∀ J, qAf I p J → Q (some (.int (fLongest (LEn I p) p a b))) (K, J, L, R, sz)) : X (d + 8) 0 0 12068 0 0 0 (qent (qml 12068) [.ref 73, .int a, .int b]) [] (K, I, L, R, sz) Q := by
  unfold fLongest at hq
  have mS := rI.mS cI
  have h01 : (0 ≤ b ∧ b ≤ 1) ↔ (b = 0 ∨ b = 1) := by
    rw [i_le, i_le, i_eq, i_eq]
    have e0 : (0 : Int32).toInt = 0 := rfl
    have e1 : (1 : Int32).toInt = 1 := rfl
    omega
  have hlt : a < 0 ↔ ¬ 0 ≤ a := by rw [i_lt, i_le]; omega
  refine e12068 hK hR cI rI (fun h1 => ?_) (fun _ h1 => ?_) (fun _ h1 h2 h3 J hJ => ?_) (fun _ _ h1 => ?_)
  · have h0 : pS p = 0 := by
      rw [mS] at h1
      by_cases h : pS p = 0
      · exact h
      · exact absurd h1 (nI_ne0 (by omega) (by have := cI.w5; omega))
    have := hq I (qAf.refl cI)
    rw [h0] at this
    simp only [lgw, if_true, true_or, ite_self] at this
    exact this
  · have := hq I (qAf.refl cI)
    rw [if_neg (fun q => hlt.mp h1 q.2)] at this
    exact this
  · have := hq J (hJ.af cI)
    rw [if_pos ⟨h01.mp ⟨h2, h3⟩, Classical.not_not.mp (fun q => h1 (hlt.mpr q))⟩] at this
    have hc := lgw_cong (LEn_val cI a) cI.w5 hJ.2.1 (pS p) (Nat.le_refl _)
    rw [← hc] at this
    exact l12068 (d := d + 7) hK hR (by rw [hJ.1 _ _ (scN_no (by omega) _)]; exact mS) cI.w5 (hJ.val cI) this (pS p) 0 (by omega)
  · have := hq I (qAf.refl cI)
    rw [if_neg (fun q => h1 (h01.mpr q.1))] at this
    exact this
end L40
