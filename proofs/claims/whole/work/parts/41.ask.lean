/-! leads -/
theorem gb_iff {f : Nat → Int32} {o : Int32} (ho : 10 ≤ 10 + o ∧ 10 + o ≤ 14) : ∀ (k : Nat) (a : Int32), gb f o k a ↔ ∃ j, j < k ∧ hx f j a = 10 + o := by
  intro k
  induction k with
  | zero => intro a; exact ⟨fun h => h.elim, fun ⟨j, h, _⟩ => absurd h (Nat.not_lt_zero _)⟩
  | succ k ih =>
    intro a
    constructor
    · rintro ⟨h1, h2⟩
      rcases h2 with h2 | h2
      · exact ⟨0, by omega, h2⟩
      · obtain ⟨j, hj, e⟩ := (ih _).mp h2
        exact ⟨j + 1, by omega, by rw [hx_s h1.1 h1.2]; exact e⟩
    · rintro ⟨j, hj, e⟩
      by_cases h1 : 10 ≤ a ∧ a ≤ 14
      · refine ⟨h1, ?_⟩
        cases j with
        | zero => exact Or.inl e
        | succ j => exact Or.inr ((ih _).mpr ⟨j, by omega, by rw [hx_s h1.1 h1.2] at e; exact e⟩)
      · rw [hx_out h1] at e
        exact absurd (e ▸ ho) h1
/-- o goes by s within i moves -/
def rb (f : Nat → Int32) (s : Int32) (o i : Nat) : Prop := ¬ nI o = s ∧ ∃ j, 1 ≤ j ∧ j ≤ i ∧ hx f j (nI (10 + o)) = 10 + s
noncomputable def ldB (f : Nat → Int32) (n : Nat) (s : Int32) : Nat → Int32
  | 0 => 0
  | i + 1 => @ite Int32 (rb f s i n) (Classical.propDecidable _) (ldB f n s i ||| (1 <<< (nI i &&& 31))) (ldB f n s i)
theorem gb_rb {f : Nat → Int32} {n s o : Nat} (hs : s < 5) : (¬ nI o = nI s ∧ gb f (nI s) (n + 1) (10 + nI o)) ↔ rb f (nI s) o n := by
  have h := qsv_nI hs
  rw [← q_10p] at h
  rw [gb_iff h, q_10p]
  constructor
  · rintro ⟨h1, j, h2, h3⟩
    refine ⟨h1, j, ?_, by omega, h3⟩
    apply Classical.byContradiction
    intro hj
    have : j = 0 := by omega
    subst this
    rw [hx_0, ← q_10p] at h3
    have := congrArg (fun x => x - 10) h3
    simp only [Int32.add_comm 10, Int32.add_sub_cancel] at this
    exact h1 this
  · rintro ⟨h1, j, h2, h3, h4⟩
    exact ⟨h1, j, by omega, h4⟩
theorem ldB_cong {f g : Nat → Int32} {n : Nat} {s : Int32} (hv : qVal f n) (hn : n ≤ 5) (hfg : ∀ j, j < n → g j = f j) : ∀ i, i ≤ n → ldB g n s i = ldB f n s i := by
  intro i
  induction i with
  | zero => intro _; rfl
  | succ i ih =>
    intro hi
    have hr : rb g s i n ↔ rb f s i n := by
      unfold rb
      simp only [hx_cong hv (show i < n by omega) hn hfg]
    rw [ldB, ldB, ih (by omega)]
    by_cases h : rb f s i n
    · rw [if_pos h, if_pos (hr.mpr h)]
    · rw [if_neg h, if_neg (fun q => h (hr.mp q))]
noncomputable def fLeads (LE : Int32 → Nat → Int32) (p : qPa) (a b : Int32) : Int32 := @ite Int32 (qIn (pS p) a ∧ 0 ≤ b) (Classical.propDecidable _) (ldB (LE b) (pS p) a (pS p)) (-1)
noncomputable def rbB (f : Nat → Int32) (s : Int32) (o : Nat) (B : Int32) (i : Nat) : Int32 := @ite Int32 (rb f s o i) (Classical.propDecidable _) (B ||| (1 <<< (nI o &&& 31))) B
theorem or_t (a b : Int32) : a ||| b ||| b = a ||| b := by rw [Int32.or_assoc, Int32.or_self]
section L41
variable {d : Nat} {K : qK} {I : Nat → Nat → Int32} {L : Nat → Nat → Int64} {R : Nat → Nat → Option Nat} {sz : Nat} {Q : Option Value → qMem → Prop} {p : qPa}
theorem u5005 {a b : Int32} (hK : qLay K sz) (hR : qRef R) (hn : I 69 2 = nI (pS p)) (h5 : pS p ≤ 5) (ht : gb (I 70) b (pS p + 1) (10 + a) → Q (some (.int 1)) (K, I, L, R, sz)) (hf : ¬ gb (I 70) b (pS p + 1) (10 + a) → Q (some (.int 0)) (K, I, L, R, sz)) : X (d + 1) 0 0 5005 0 0 0 (qent (qml 5005) [.ref 69, .int a, .int b]) [] (K, I, L, R, sz) Q := s5005 hK hR hn h5 ht hf
theorem e11015 {a : Int32} {b : Int32}  (hK : qLay K sz) (hR : qRef R) (cI : CI I p)  (q1 : qIn (pS p) a → 0 ≤ b → ∀ I3 : Nat → Nat → Int32, qLk I p b I3 → X (d + 7) 0 0 11015 0 0 24 [some (.ref 0), some (.int a), some (.int b), some (.int 0), some (.int 0)] [] (K, I3, L, R, sz) Q) (q2 : qIn (pS p) a → ¬ 0 ≤ b → Q (some (.int (-1))) (K, I, L, R, sz)) (q3 : ¬ qIn (pS p) a → Q (some (.int (-1))) (K, I, L, R, sz)) : X (d + 7) 0 0 11015 0 0 0 (qent (qml 11015) [.ref 0, .int a, .int b]) [] (K, I, L, R, sz) Q := show X _ 0 0 11015 0 0 0 [some (.ref 0), some (.int a), some (.int b), none, none] [] _ _ from x_ald0 k11015_0 <| x_ild1 k11015_1 <| x_cV1 (MCz := 0) (MSz := 0) k11015_2 v11_133_10 (hK.at rfl) (Nat.le_of_ble_eq_true rfl) (Nat.le_of_ble_eq_true rfl) (Nat.le_refl _) (Nat.le_refl _) <| u11039 hK hR cI (fun g1 => x_ifeqF (tgt := 12) k11015_5 (by decide) (show ¬ (1 : Int32) = 0 by decide) <| x_ild2 k11015_8 <| x_ifge (tgt := 14) k11015_9 (by decide) (fun h2 => x_ald0 k11015_14 <| x_ild2 k11015_15 <| x_cV1 (MCz := 0) (MSz := 0) k11015_16 v11_196_10 (hK.at rfl) (Nat.le_of_ble_eq_true rfl) (Nat.le_of_ble_eq_true rfl) (Nat.le_refl _) (Nat.le_refl _) <| u11044 hK hR cI (fun I3 g4 => x_iconst (v := 0) k11015_19 rfl <| x_ist3 k11015_20 (Nat.le_of_ble_eq_true rfl) rfl <| x_iconst (v := 0) k11015_21 rfl <| x_ist4 k11015_22 (Nat.le_of_ble_eq_true rfl) rfl <| (q1 g1 h2 I3 g4))) (fun h2 => x_iconst (v := (-1)) k11015_12 rfl <| x_iret k11015_13 rfl (Nat.le_refl _) (Nat.le_refl _) <| (q2 g1 h2))) (fun g5 => x_ifeqT (tgt := 12) k11015_5 (by decide) (show (0 : Int32) = 0 by decide) <| x_iconst (v := (-1)) k11015_12 rfl <| x_iret k11015_13 rfl (Nat.le_refl _) (Nat.le_refl _) <| (q3 g5))
theorem g11015_24 {x1 : Int32} {x2 : Int32} {x3 : Int32} {x4 : Int32}  (hK : qLay K sz) (hR : qRef R) (b1 : ¬ (I 22 1) ≤ x4 → ¬ x4 = x1 → I 69 2 = nI (pS p)) (b2 : ¬ (I 22 1) ≤ x4 → ¬ x4 = x1 → pS p ≤ 5) (q1 : (I 22 1) ≤ x4 → Q (some (.int x3)) (K, I, L, R, sz)) (q2 : ¬ (I 22 1) ≤ x4 → x4 = x1 → X (d + 2) 0 0 11015 0 0 24 [some (.ref 0), some (.int x1), some (.int x2), some (.int x3), some (.int (x4 + 1))] [] (K, I, L, R, sz) Q) (q3 : ¬ (I 22 1) ≤ x4 → ¬ x4 = x1 → gb (I 70) x1 (pS p + 1) (10 + x4) → X (d + 2) 0 0 11015 0 0 24 [some (.ref 0), some (.int x1), some (.int x2), some (.int (x3 ||| (1 <<< (x4 &&& 31)))), some (.int (x4 + 1))] [] (K, I, L, R, sz) Q) (q4 : ¬ (I 22 1) ≤ x4 → ¬ x4 = x1 → ¬ gb (I 70) x1 (pS p + 1) (10 + x4) → X (d + 2) 0 0 11015 0 0 24 [some (.ref 0), some (.int x1), some (.int x2), some (.int x3), some (.int (x4 + 1))] [] (K, I, L, R, sz) Q) : X (d + 2) 0 0 11015 0 0 24 [some (.ref 0), some (.int x1), some (.int x2), some (.int x3), some (.int x4)] [] (K, I, L, R, sz) Q := x_ild4 k11015_24 <| x_ald0 k11015_26 <| x_getR k11015_27 f11_35_10 (hK.at rfl) rfl (hR _ _ _ rfl) <| x_getI k11015_30 f11_118_1 (hK.at rfl) rfl <| x_icmpge (tgt := 68) k11015_33 (by decide) (fun h1 => x_ild3 k11015_68 <| x_iret k11015_69 rfl (Nat.le_refl _) (Nat.le_refl _) <| (q1 h1)) (fun h1 => x_ild4 k11015_36 <| x_ild1 k11015_38 <| x_icmpeq (tgt := 62) k11015_39 (by decide) (fun h2 => x_inc4 (c := 1) k11015_62 rfl (Nat.le_of_ble_eq_true rfl) rfl <| x_goto (tgt := 24) k11015_65 (by decide) <| (q2 h1 h2)) (fun h2 => x_ald0 k11015_42 <| x_getR k11015_43 f11_73_10 (hK.at rfl) rfl (hR _ _ _ rfl) <| x_ild4 k11015_46 <| x_ild1 k11015_48 <| x_cV2 (MCz := 0) (MSz := 0) k11015_49 v11_208_5 (hK.at rfl) (Nat.le_of_ble_eq_true rfl) (Nat.le_of_ble_eq_true rfl) (Nat.le_refl _) (Nat.le_refl _) <| u5005 hK hR (b1 h1 h2) (b2 h1 h2) (fun g3 => x_ifeqF (tgt := 62) k11015_52 (by decide) (show ¬ (1 : Int32) = 0 by decide) <| x_ild3 k11015_55 <| x_iconst (v := 1) k11015_56 rfl <| x_ild4 k11015_57 <| x_ishl k11015_59 <| x_ior k11015_60 <| x_ist3 k11015_61 (Nat.le_of_ble_eq_true rfl) rfl <| x_inc4 (c := 1) k11015_62 rfl (Nat.le_of_ble_eq_true rfl) rfl <| x_goto (tgt := 24) k11015_65 (by decide) <| (q3 h1 h2 g3)) (fun g4 => x_ifeqT (tgt := 62) k11015_52 (by decide) (show (0 : Int32) = 0 by decide) <| x_inc4 (c := 1) k11015_62 rfl (Nat.le_of_ble_eq_true rfl) rfl <| x_goto (tgt := 24) k11015_65 (by decide) <| (q4 h1 h2 g4))))
theorem e12067 {a : Int32} {b : Int32}  (hK : qLay K sz) (hR : qRef R) (cI : CI I p) (rI : RI I p)  (q1 : qIn (pS p) a → 0 ≤ b → ∀ I3 : Nat → Nat → Int32, qLr I p b I3 → X (d + 8) 0 0 12067 0 0 24 [some (.ref 73), some (.int a), some (.int b), some (.int 0), some (.int 0), none, none] [] (K, I3, L, R, sz) Q) (q2 : qIn (pS p) a → ¬ 0 ≤ b → Q (some (.int (-1))) (K, I, L, R, sz)) (q3 : ¬ qIn (pS p) a → Q (some (.int (-1))) (K, I, L, R, sz)) : X (d + 8) 0 0 12067 0 0 0 (qent (qml 12067) [.ref 73, .int a, .int b]) [] (K, I, L, R, sz) Q := show X _ 0 0 12067 0 0 0 [some (.ref 73), some (.int a), some (.int b), none, none, none, none] [] _ _ from x_ald0 k12067_0 <| x_ild1 k12067_1 <| x_cV1 (MCz := 0) (MSz := 0) k12067_2 v12_311_11 (hK.at rfl) (Nat.le_of_ble_eq_true rfl) (Nat.le_of_ble_eq_true rfl) (Nat.le_refl _) (Nat.le_refl _) <| u12046 hK cI rI (fun g1 => x_ifeqF (tgt := 12) k12067_5 (by decide) (show ¬ (1 : Int32) = 0 by decide) <| x_ild2 k12067_8 <| x_ifge (tgt := 14) k12067_9 (by decide) (fun h2 => x_ald0 k12067_14 <| x_ild2 k12067_15 <| x_cV1 (MCz := 0) (MSz := 0) k12067_16 v12_348_11 (hK.at rfl) (Nat.le_of_ble_eq_true rfl) (Nat.le_of_ble_eq_true rfl) (Nat.le_refl _) (Nat.le_refl _) <| u12059 hK hR cI rI (fun I3 g4 => x_iconst (v := 0) k12067_19 rfl <| x_ist3 k12067_20 (Nat.le_of_ble_eq_true rfl) rfl <| x_iconst (v := 0) k12067_21 rfl <| x_ist4 k12067_22 (Nat.le_of_ble_eq_true rfl) rfl <| (q1 g1 h2 I3 g4))) (fun h2 => x_iconst (v := (-1)) k12067_12 rfl <| x_iret k12067_13 rfl (Nat.le_refl _) (Nat.le_refl _) <| (q2 g1 h2))) (fun g5 => x_ifeqT (tgt := 12) k12067_5 (by decide) (show (0 : Int32) = 0 by decide) <| x_iconst (v := (-1)) k12067_12 rfl <| x_iret k12067_13 rfl (Nat.le_refl _) (Nat.le_refl _) <| (q3 g5))
theorem g12067_24 {x1 : Int32} {x2 : Int32} {x3 : Int32} {x4 : Int32}  (hK : qLay K sz)  (q1 : (I 73 24) ≤ x4 → Q (some (.int x3)) (K, I, L, R, sz)) (q2 : ¬ (I 73 24) ≤ x4 → X d 0 0 12067 0 0 43 [some (.ref 73), some (.int x1), some (.int x2), some (.int x3), some (.int x4), some (.int (10 + x4)), some (.int 0)] [] (K, I, L, R, sz) Q) : X d 0 0 12067 0 0 24 [some (.ref 73), some (.int x1), some (.int x2), some (.int x3), some (.int x4), none, none] [] (K, I, L, R, sz) Q := x_ild4 k12067_24 <| x_ald0 k12067_26 <| x_getI k12067_27 f12_289_11 (hK.at rfl) rfl <| x_icmpge (tgt := 109) k12067_30 (by decide) (fun h1 => x_ild3 k12067_109 <| x_iret k12067_110 rfl (Nat.le_refl _) (Nat.le_refl _) <| (q1 h1)) (fun h1 => x_bipush (v := 10) k12067_33 rfl <| x_ild4 k12067_35 <| x_iadd k12067_37 <| x_ist5 k12067_38 (Nat.le_of_ble_eq_true rfl) rfl <| x_iconst (v := 0) k12067_40 rfl <| x_ist6 k12067_41 (Nat.le_of_ble_eq_true rfl) rfl <| (q2 h1))
theorem g12067_43 {x1 : Int32} {x2 : Int32} {x3 : Int32} {x4 : Int32} {x5 : Int32} {x6 : Int32}  (hK : qLay K sz) (hR : qRef R) (b1 : ¬ (I 73 24) ≤ x6 → ¬ x5 < 10 → vp_in (x5 - 10) 5) (q1 : (I 73 24) ≤ x6 → X d 0 0 12067 0 0 24 [some (.ref 73), some (.int x1), some (.int x2), some (.int x3), some (.int (x4 + 1)), none, none] [] (K, I, L, R, sz) Q) (q2 : ¬ (I 73 24) ≤ x6 → x5 < 10 → X d 0 0 12067 0 0 24 [some (.ref 73), some (.int x1), some (.int x2), some (.int x3), some (.int (x4 + 1)), none, none] [] (K, I, L, R, sz) Q) (q3 : ¬ (I 73 24) ≤ x6 → ¬ x5 < 10 → x4 = x1 → X d 0 0 12067 0 0 43 [some (.ref 73), some (.int x1), some (.int x2), some (.int (x3 ||| 0)), some (.int x4), some (.int (I 89 ((x5 - 10).toNatClampNeg))), some (.int (x6 + 1))] [] (K, I, L, R, sz) Q) (q4 : ¬ (I 73 24) ≤ x6 → ¬ x5 < 10 → ¬ x4 = x1 → ¬ (I 89 ((x5 - 10).toNatClampNeg)) = (10 + x1) → X d 0 0 12067 0 0 43 [some (.ref 73), some (.int x1), some (.int x2), some (.int (x3 ||| 0)), some (.int x4), some (.int (I 89 ((x5 - 10).toNatClampNeg))), some (.int (x6 + 1))] [] (K, I, L, R, sz) Q) (q5 : ¬ (I 73 24) ≤ x6 → ¬ x5 < 10 → ¬ x4 = x1 → (I 89 ((x5 - 10).toNatClampNeg)) = (10 + x1) → X d 0 0 12067 0 0 43 [some (.ref 73), some (.int x1), some (.int x2), some (.int (x3 ||| (1 <<< (x4 &&& 31)))), some (.int x4), some (.int (I 89 ((x5 - 10).toNatClampNeg))), some (.int (x6 + 1))] [] (K, I, L, R, sz) Q) : X d 0 0 12067 0 0 43 [some (.ref 73), some (.int x1), some (.int x2), some (.int x3), some (.int x4), some (.int x5), some (.int x6)] [] (K, I, L, R, sz) Q := x_ild6 k12067_43 <| x_ald0 k12067_45 <| x_getI k12067_46 f12_289_11 (hK.at rfl) rfl <| x_icmpge (tgt := 103) k12067_49 (by decide) (fun h1 => x_inc4 (c := 1) k12067_103 rfl (Nat.le_of_ble_eq_true rfl) rfl <| x_goto (tgt := 24) k12067_106 (by decide) <| x_wk (ls := [some (.ref 73), some (.int x1), some (.int x2), some (.int x3), some (.int (x4 + 1)), none, none]) ⟨rfl, ⟨rfl, ⟨rfl, ⟨rfl, ⟨rfl, True.intro⟩⟩⟩⟩⟩ <| (q1 h1)) (fun h1 => x_ild5 k12067_52 <| x_bipush (v := 10) k12067_54 rfl <| x_icmplt (tgt := 103) k12067_56 (by decide) (fun h2 => x_inc4 (c := 1) k12067_103 rfl (Nat.le_of_ble_eq_true rfl) rfl <| x_goto (tgt := 24) k12067_106 (by decide) <| x_wk (ls := [some (.ref 73), some (.int x1), some (.int x2), some (.int x3), some (.int (x4 + 1)), none, none]) ⟨rfl, ⟨rfl, ⟨rfl, ⟨rfl, ⟨rfl, True.intro⟩⟩⟩⟩⟩ <| (q2 h1 h2)) (fun h2 => x_ald0 k12067_59 <| x_getR k12067_60 f12_62_11 (hK.at rfl) rfl (hR _ _ _ rfl) <| x_ild5 k12067_63 <| x_bipush (v := 10) k12067_65 rfl <| x_isub k12067_67 <| x_iald k12067_68 (hK.at rfl) (b1 h1 h2) <| x_ist5 k12067_69 (Nat.le_of_ble_eq_true rfl) rfl <| x_ild3 k12067_71 <| x_ild4 k12067_72 <| x_ild1 k12067_74 <| x_icmpeq (tgt := 94) k12067_75 (by decide) (fun h3 => x_iconst (v := 0) k12067_94 rfl <| x_ior k12067_95 <| x_ist3 k12067_96 (Nat.le_of_ble_eq_true rfl) rfl <| x_inc6 (c := 1) k12067_97 rfl (Nat.le_of_ble_eq_true rfl) rfl <| x_goto (tgt := 43) k12067_100 (by decide) <| (q3 h1 h2 h3)) (fun h3 => x_ild5 k12067_78 <| x_bipush (v := 10) k12067_80 rfl <| x_ild1 k12067_82 <| x_iadd k12067_83 <| x_icmpne (tgt := 94) k12067_84 (by decide) (fun h4 => x_iconst (v := 0) k12067_94 rfl <| x_ior k12067_95 <| x_ist3 k12067_96 (Nat.le_of_ble_eq_true rfl) rfl <| x_inc6 (c := 1) k12067_97 rfl (Nat.le_of_ble_eq_true rfl) rfl <| x_goto (tgt := 43) k12067_100 (by decide) <| (q4 h1 h2 h3 h4)) (fun h4 => x_iconst (v := 1) k12067_87 rfl <| x_ild4 k12067_88 <| x_ishl k12067_90 <| x_goto (tgt := 95) k12067_91 (by decide) <| x_ior k12067_95 <| x_ist3 k12067_96 (Nat.le_of_ble_eq_true rfl) rfl <| x_inc6 (c := 1) k12067_97 rfl (Nat.le_of_ble_eq_true rfl) rfl <| x_goto (tgt := 43) k12067_100 (by decide) <| (q5 h1 h2 h3 h4)))))
theorem l11015 {x2 : Int32} {s : Nat} (hK : qLay K sz) (hR : qRef R) (lS : I 22 1 = nI (pS p)) (hn : I 69 2 = nI (pS p)) (w5 : pS p ≤ 5) (hs : s < pS p) (hq : Q (some (.int (ldB (I 70) (pS p) (nI s) (pS p)))) (K, I, L, R, sz)) : ∀ (k i : Nat), i + k = pS p → X (d + 2) 0 0 11015 0 0 24 [some (.ref 0), some (.int (nI s)), some (.int x2), some (.int (ldB (I 70) (pS p) (nI s) i)), some (.int (nI i))] [] (K, I, L, R, sz) Q := by
  intro k
  induction k with
  | zero =>
    intro i hi
    have hle : I 22 1 ≤ nI i := by rw [lS]; exact nI_le (by omega) (by omega)
    have : i = pS p := by omega
    subst this
    exact g11015_24 (p := p) hK hR (fun h => absurd hle h) (fun h => absurd hle h) (fun _ => hq) (fun h => absurd hle h) (fun h => absurd hle h) (fun h => absurd hle h)
  | succ k ih =>
    intro i hi
    have hnl : ¬ I 22 1 ≤ nI i := by rw [lS]; exact nI_ge (by omega) (by omega)
    have ih' := ih (i + 1) (by omega)
    have hb := gb_rb (f := I 70) (n := pS p) (s := s) (o := i) (by omega)
    refine g11015_24 (p := p) hK hR (fun _ _ => hn) (fun _ _ => w5) (fun h => absurd h hnl) ?_ ?_ ?_
    all_goals intro _ h1
    · rw [ldB, if_neg (fun q => (hb.mpr q).1 h1)] at ih'
      rw [nI_1]; exact ih'
    · intro h2
      first
        | (rw [ldB, if_pos (hb.mp ⟨h1, h2⟩)] at ih'
           rw [nI_1]; exact ih')
        | (rw [ldB, if_neg (fun q => h2 (hb.mpr q).2)] at ih'
           rw [nI_1]; exact ih')
    · intro h2
      first
        | (rw [ldB, if_pos (hb.mp ⟨h1, h2⟩)] at ih'
           rw [nI_1]; exact ih')
        | (rw [ldB, if_neg (fun q => h2 (hb.mpr q).2)] at ih'
           rw [nI_1]; exact ih')
theorem s11015 {a b : Int32} (hK : qLay K sz) (hR : qRef R) (cI : CI I p) (hq : ∀ J, qAf I p J → Q (some (.int (fLeads (LEn I p) p a b))) (K, J, L, R, sz)) : X (d + 7) 0 0 11015 0 0 0 (qent (qml 11015) [.ref 0, .int a, .int b]) [] (K, I, L, R, sz) Q := by
  unfold fLeads at hq
  refine e11015 hK hR cI (fun h1 h2 J hJ => ?_) (fun h1 h2 => ?_) (fun h1 => ?_)
  · have := hq J (hJ.af cI)
    rw [if_pos ⟨h1, h2⟩] at this
    obtain ⟨s, hs, rfl⟩ := h1
    rw [← ldB_cong (LEn_val cI b) cI.w5 (hJ.le5 cI) _ (Nat.le_refl _)] at this
    exact l11015 (d := d + 5) hK hR (by rw [hJ.1 _ _ (scV_no (by omega) _)]; exact cI.lS) hJ.2.1 cI.w5 hs this (pS p) 0 (by omega)
  · have := hq I (qAf.refl cI)
    rw [if_neg (fun q => h2 q.2)] at this
    exact this
  · have := hq I (qAf.refl cI)
    rw [if_neg (fun q => h1 q.1)] at this
    exact this
theorem l12067b {x2 B : Int32} {s o : Nat} (hK : qLay K sz) (hR : qRef R) (mS : I 73 24 = nI (pS p)) (w5 : pS p ≤ 5) (hv : qVal (I 89) (pS p)) (hs : s < pS p) (ho : o < pS p) (hq : ∀ y5 y6 : Int32, X d 0 0 12067 0 0 24 [some (.ref 73), some (.int (nI s)), some (.int x2), some (.int (rbB (I 89) (nI s) o B (pS p))), some (.int (nI o + 1)), none, none] [] (K, I, L, R, sz) Q) : ∀ (k i : Nat), i + k = pS p → X d 0 0 12067 0 0 43 [some (.ref 73), some (.int (nI s)), some (.int x2), some (.int (rbB (I 89) (nI s) o B i)), some (.int (nI o)), some (.int (hx (I 89) i (nI (10 + o)))), some (.int (nI i))] [] (K, I, L, R, sz) Q := by
  intro k
  induction k with
  | zero =>
    intro i hi
    have hle : I 73 24 ≤ nI i := by rw [mS]; exact nI_le (by omega) (by omega)
    have : i = pS p := by omega
    subst this
    refine g12067_43 hK hR (fun h => absurd hle h) (fun _ => hq 0 0) (fun h => absurd hle h) (fun h => absurd hle h) (fun h => absurd hle h) (fun h => absurd hle h)
  | succ k ih =>
    intro i hi
    have hnl : ¬ I 73 24 ≤ nI i := by rw [mS]; exact nI_ge (by omega) (by omega)
    have ih' := ih (i + 1) (by omega)
    have hsv := hx_val hv ho w5 i
    have hstep : ¬ hx (I 89) i (nI (10 + o)) < 10 → (10 ≤ hx (I 89) i (nI (10 + o)) ∧ hx (I 89) i (nI (10 + o)) ≤ 14) := fun h => by
      rcases hsv with h1 | ⟨j, hj, e⟩
      · exact absurd (by rw [i_lt]; rw [i_le] at h1; omega) h
      · rw [e]; exact qsv_nI (by omega)
    have hn1 : ¬ hx (I 89) i (nI (10 + o)) < 10 → I 89 (hx (I 89) i (nI (10 + o)) - 10).toNatClampNeg = hx (I 89) (i + 1) (nI (10 + o)) := fun h => by rw [hx_st', st1, if_pos (hstep h)]
    have hup : ¬ (¬ nI o = nI s ∧ hx (I 89) (i + 1) (nI (10 + o)) = 10 + nI s) → rbB (I 89) (nI s) o B (i + 1) = rbB (I 89) (nI s) o B i := fun h => by
      unfold rbB
      have : rb (I 89) (nI s) o (i + 1) ↔ rb (I 89) (nI s) o i := by
        constructor
        · rintro ⟨h1, j, h2, h3, h4⟩
          by_cases hj : j = i + 1
          · subst hj; exact absurd ⟨h1, h4⟩ h
          · exact ⟨h1, j, h2, by omega, h4⟩
        · rintro ⟨h1, j, h2, h3, h4⟩
          exact ⟨h1, j, h2, by omega, h4⟩
      by_cases hr : rb (I 89) (nI s) o i
      · rw [if_pos hr, if_pos (this.mpr hr)]
      · rw [if_neg hr, if_neg (fun q => hr (this.mp q))]
    refine g12067_43 hK hR (fun _ h => qsv_in (hstep h).1 (hstep h).2) (fun h => absurd h hnl) (fun _ h => ?_) (fun _ h h1 => ?_) (fun _ h h1 h2 => ?_) (fun _ h h1 h2 => ?_)
    · -- out: no servant any more
      have hns : ¬ (10 ≤ hx (I 89) i (nI (10 + o)) ∧ hx (I 89) i (nI (10 + o)) ≤ 14) := fun q => by
        have := q.1
        rw [i_le] at this
        rw [i_lt] at h
        omega
      have : rbB (I 89) (nI s) o B (pS p) = rbB (I 89) (nI s) o B i := by
        unfold rbB
        have : rb (I 89) (nI s) o (pS p) ↔ rb (I 89) (nI s) o i := by
          constructor
          · rintro ⟨h1, j, h2, h3, h4⟩
            by_cases hj : j ≤ i
            · exact ⟨h1, j, h2, hj, h4⟩
            · have e := hx_out (f := I 89) hns (j - i)
              rw [← hx_add, show i + (j - i) = j from by omega, h4] at e
              rw [← e, q_10p] at hns
              exact absurd (qsv_nI (by omega)) hns
          · rintro ⟨h1, j, h2, h3, h4⟩
            exact ⟨h1, j, h2, by omega, h4⟩
        by_cases hr : rb (I 89) (nI s) o i
        · rw [if_pos hr, if_pos (this.mpr hr)]
        · rw [if_neg hr, if_neg (fun q => hr (this.mp q))]
      have hq' := hq 0 0
      rw [this] at hq'
      exact hq'
    · rw [hup (fun q => q.1 h1)] at ih'
      rw [hn1 h, nI_1, Int32.or_zero]; exact ih'
    · rw [hn1 h] at h2
      rw [hup (fun q => h2 q.2)] at ih'
      rw [hn1 h, nI_1, Int32.or_zero]; exact ih'
    · rw [hn1 h] at h2
      have hr : rb (I 89) (nI s) o (i + 1) := ⟨h1, i + 1, by omega, Nat.le_refl _, h2⟩
      have e : rbB (I 89) (nI s) o B (i + 1) = rbB (I 89) (nI s) o B i ||| (1 <<< (nI o &&& 31)) := by
        unfold rbB
        rw [if_pos hr]
        by_cases hr' : rb (I 89) (nI s) o i
        · rw [if_pos hr', or_t]
        · rw [if_neg hr']
      rw [e] at ih'
      rw [hn1 h, nI_1]; exact ih'
theorem l12067 {x2 : Int32} {s : Nat} (hK : qLay K sz) (hR : qRef R) (mS : I 73 24 = nI (pS p)) (w5 : pS p ≤ 5) (hv : qVal (I 89) (pS p)) (hs : s < pS p) (hq : Q (some (.int (ldB (I 89) (pS p) (nI s) (pS p)))) (K, I, L, R, sz)) : ∀ (k i : Nat), i + k = pS p → X d 0 0 12067 0 0 24 [some (.ref 73), some (.int (nI s)), some (.int x2), some (.int (ldB (I 89) (pS p) (nI s) i)), some (.int (nI i)), none, none] [] (K, I, L, R, sz) Q := by
  intro k
  induction k with
  | zero =>
    intro i hi
    have hle : I 73 24 ≤ nI i := by rw [mS]; exact nI_le (by omega) (by omega)
    have : i = pS p := by omega
    subst this
    exact g12067_24 hK (fun _ => hq) (fun h => absurd hle h)
  | succ k ih =>
    intro i hi
    have hnl : ¬ I 73 24 ≤ nI i := by rw [mS]; exact nI_ge (by omega) (by omega)
    have ih' := ih (i + 1) (by omega)
    refine g12067_24 hK (fun h => absurd h hnl) (fun _ => ?_)
    have e : ldB (I 89) (pS p) (nI s) (i + 1) = rbB (I 89) (nI s) i (ldB (I 89) (pS p) (nI s) i) (pS p) := rfl
    have h0 : rbB (I 89) (nI s) i (ldB (I 89) (pS p) (nI s) i) 0 = ldB (I 89) (pS p) (nI s) i := by
      unfold rbB
      rw [if_neg (fun ⟨_, j, h1, h2, _⟩ => by omega)]
    have := l12067b (d := d) (L := L) (Q := Q) (x2 := x2) (B := ldB (I 89) (pS p) (nI s) i) hK hR mS w5 hv hs (show i < pS p by omega) (fun _ _ => by rw [nI_1, ← e]; exact ih') (pS p) 0 (by omega)
    rw [h0] at this
    rw [q_10p]
    exact this
theorem s12067 {a b : Int32} (hK : qLay K sz) (hR : qRef R) (cI : CI I p) (rI : RI I p) (hq : ∀ J, qAf I p J → Q (some (.int (fLeads (LEn I p) p a b))) (K, J, L, R, sz)) : X (d + 8) 0 0 12067 0 0 0 (qent (qml 12067) [.ref 73, .int a, .int b]) [] (K, I, L, R, sz) Q := by
  unfold fLeads at hq
  refine e12067 hK hR cI rI (fun h1 h2 J hJ => ?_) (fun h1 h2 => ?_) (fun h1 => ?_)
  · have := hq J (hJ.af cI)
    rw [if_pos ⟨h1, h2⟩] at this
    obtain ⟨s, hs, rfl⟩ := h1
    rw [← ldB_cong (LEn_val cI b) cI.w5 hJ.2.1 _ (Nat.le_refl _)] at this
    exact l12067 hK hR (by rw [hJ.1 _ _ (scN_no (by omega) _)]; exact rI.mS cI) cI.w5 (hJ.val cI) hs this (pS p) 0 (by omega)
  · have := hq I (qAf.refl cI)
    rw [if_neg (fun q => h2 q.2)] at this
    exact this
  · have := hq I (qAf.refl cI)
    rw [if_neg (fun q => h1 q.1)] at this
    exact this
end L41
