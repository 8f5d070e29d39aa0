/-! plans: the reference's ruin -/
section L99n
variable {d : Nat} {K : qK} {I : Nat → Nat → Int32} {L : Nat → Nat → Int64} {R : Nat → Nat → Option Nat} {sz : Nat} {Q : Option Value → qMem → Prop} {p : qPa}
theorem e12087 {a : Int32}  (hK : qLay K sz) (cI : CI I p) (rI : RI I p)  (q1 : fewQ p → qIn (pM p) a → X (d + 2) 0 0 12087 0 0 24 [some (.ref 73), some (.int a), none, none, none, none] [.int (-1), .int a, .ref 73] (K, I, L, R, sz) Q) (q2 : fewQ p → ¬ qIn (pM p) a → Q (some (.int (-1))) (K, I, L, R, sz)) (q3 : ¬ fewQ p → Q (some (.int (-1000000))) (K, I, L, R, sz)) : X (d + 2) 0 0 12087 0 0 0 (qent (qml 12087) [.ref 73, .int a]) [] (K, I, L, R, sz) Q := show X _ 0 0 12087 0 0 0 [some (.ref 73), some (.int a), none, none, none, none] [] _ _ from x_ald0 k12087_0 <| x_cV0 (MCz := 0) (MSz := 0) k12087_1 v12_412_11 (hK.at rfl) (Nat.le_of_ble_eq_true rfl) (Nat.le_of_ble_eq_true rfl) (Nat.le_refl _) (Nat.le_refl _) <| u12083 hK cI rI (fun g1 => x_ifneT (tgt := 11) k12087_4 (by decide) (show ¬ (1 : Int32) = 0 by decide) <| x_ald0 k12087_11 <| x_ild1 k12087_12 <| x_cV1 (MCz := 0) (MSz := 0) k12087_13 v12_314_11 (hK.at rfl) (Nat.le_of_ble_eq_true rfl) (Nat.le_of_ble_eq_true rfl) (Nat.le_refl _) (Nat.le_refl _) <| u12047 hK cI rI (fun g2 => x_ifneT (tgt := 21) k12087_16 (by decide) (show ¬ (1 : Int32) = 0 by decide) <| x_ald0 k12087_21 <| x_ild1 k12087_22 <| x_iconst (v := (-1)) k12087_23 rfl <| (q1 g1 g2)) (fun g3 => x_ifneF (tgt := 21) k12087_16 (by decide) (show (0 : Int32) = 0 by decide) <| x_iconst (v := (-1)) k12087_19 rfl <| x_iret k12087_20 rfl (Nat.le_refl _) (Nat.le_refl _) <| (q2 g1 g3))) (fun g4 => x_ifneF (tgt := 11) k12087_4 (by decide) (show (0 : Int32) = 0 by decide) <| x_ldcW k12087_7 c12_317 <| x_iret k12087_10 rfl (Nat.le_refl _) (Nat.le_refl _) <| (q3 g4))
theorem f12087 {a : Int32}  (hK : qLay K sz)  (q1 : ¬ (I 73 48) = (-1) → X d 0 0 12087 0 0 44 [some (.ref 73), some (.int a), some (.int (-1)), some (.int 0), some (.int 0), none] [] (K, I, L, R, sz) Q) (q2 : (I 73 48) = (-1) → Q (some (.int (-1))) (K, I, L, R, sz)) : X d 0 0 12087 0 0 27 [some (.ref 73), some (.int a), none, none, none, none] [] (K, I, L, R, sz) Q := x_ald0 k12087_27 <| x_getI k12087_28 f12_396_11 (hK.at rfl) rfl <| x_iconst (v := (-1)) k12087_31 rfl <| x_icmpne (tgt := 37) k12087_32 (by decide) (fun h1 => x_iconst (v := (-1)) k12087_37 rfl <| x_ist2 k12087_38 (Nat.le_of_ble_eq_true rfl) rfl <| x_iconst (v := 0) k12087_39 rfl <| x_ist3 k12087_40 (Nat.le_of_ble_eq_true rfl) rfl <| x_iconst (v := 0) k12087_41 rfl <| x_ist4 k12087_42 (Nat.le_of_ble_eq_true rfl) rfl <| (q1 h1)) (fun h1 => x_iconst (v := (-1)) k12087_35 rfl <| x_iret k12087_36 rfl (Nat.le_refl _) (Nat.le_refl _) <| (q2 h1))
theorem g12087 {a : Int32} {b : Int32} {c : Int32} {e : Int32}  (hK : qLay K sz)  (q1 : (I 73 24) ≤ e → Q (some (.int b)) (K, I, L, R, sz)) (q2 : ¬ (I 73 24) ≤ e → X d 0 0 12087 0 0 57 [some (.ref 73), some (.int a), some (.int b), some (.int c), some (.int e), none] [.int e, .int a, .ref 73] (K, I, L, R, sz) Q) : X d 0 0 12087 0 0 44 [some (.ref 73), some (.int a), some (.int b), some (.int c), some (.int e), none] [] (K, I, L, R, sz) Q := x_ild4 k12087_44 <| x_ald0 k12087_46 <| x_getI k12087_47 f12_289_11 (hK.at rfl) rfl <| x_icmpge (tgt := 103) k12087_50 (by decide) (fun h1 => x_ild2 k12087_103 <| x_iret k12087_104 rfl (Nat.le_refl _) (Nat.le_refl _) <| (q1 h1)) (fun h1 => x_ald0 k12087_53 <| x_ild1 k12087_54 <| x_ild4 k12087_55 <| (q2 h1))
theorem h12087 {a : Int32} {b : Int32} {c : Int32} {e : Int32}  (hK : qLay K sz)  (q1 : ¬ (I 73 48) = (-1) → b = (-1) → X d 0 0 12087 0 0 44 [some (.ref 73), some (.int a), some (.int e), some (.int (I 73 48)), some (.int (e + 1)), some (.int (I 73 48))] [] (K, I, L, R, sz) Q) (q2 : ¬ (I 73 48) = (-1) → ¬ b = (-1) → (I 73 48) ≤ c → X d 0 0 12087 0 0 44 [some (.ref 73), some (.int a), some (.int b), some (.int c), some (.int (e + 1)), some (.int (I 73 48))] [] (K, I, L, R, sz) Q) (q3 : ¬ (I 73 48) = (-1) → ¬ b = (-1) → ¬ (I 73 48) ≤ c → X d 0 0 12087 0 0 44 [some (.ref 73), some (.int a), some (.int e), some (.int (I 73 48)), some (.int (e + 1)), some (.int (I 73 48))] [] (K, I, L, R, sz) Q) (q4 : (I 73 48) = (-1) → b = (-1) → X d 0 0 12087 0 0 44 [some (.ref 73), some (.int a), some (.int e), some (.int 1000), some (.int (e + 1)), some (.int 1000)] [] (K, I, L, R, sz) Q) (q5 : (I 73 48) = (-1) → ¬ b = (-1) → 1000 ≤ c → X d 0 0 12087 0 0 44 [some (.ref 73), some (.int a), some (.int b), some (.int c), some (.int (e + 1)), some (.int 1000)] [] (K, I, L, R, sz) Q) (q6 : (I 73 48) = (-1) → ¬ b = (-1) → ¬ 1000 ≤ c → X d 0 0 12087 0 0 44 [some (.ref 73), some (.int a), some (.int e), some (.int 1000), some (.int (e + 1)), some (.int 1000)] [] (K, I, L, R, sz) Q) : X d 0 0 12087 0 0 60 [some (.ref 73), some (.int a), some (.int b), some (.int c), some (.int e), none] [] (K, I, L, R, sz) Q := x_ald0 k12087_60 <| x_getI k12087_61 f12_396_11 (hK.at rfl) rfl <| x_iconst (v := (-1)) k12087_64 rfl <| x_icmpne (tgt := 74) k12087_65 (by decide) (fun h1 => x_ald0 k12087_74 <| x_getI k12087_75 f12_396_11 (hK.at rfl) rfl <| x_ist5 k12087_78 (Nat.le_of_ble_eq_true rfl) rfl <| x_ild2 k12087_80 <| x_iconst (v := (-1)) k12087_81 rfl <| x_icmpeq (tgt := 91) k12087_82 (by decide) (fun h2 => x_ild4 k12087_91 <| x_ist2 k12087_93 (Nat.le_of_ble_eq_true rfl) rfl <| x_ild5 k12087_94 <| x_ist3 k12087_96 (Nat.le_of_ble_eq_true rfl) rfl <| x_inc4 (c := 1) k12087_97 rfl (Nat.le_of_ble_eq_true rfl) rfl <| x_goto (tgt := 44) k12087_100 (by decide) <| (q1 h1 h2)) (fun h2 => x_ild5 k12087_85 <| x_ild3 k12087_87 <| x_icmple (tgt := 97) k12087_88 (by decide) (fun h3 => x_inc4 (c := 1) k12087_97 rfl (Nat.le_of_ble_eq_true rfl) rfl <| x_goto (tgt := 44) k12087_100 (by decide) <| (q2 h1 h2 h3)) (fun h3 => x_ild4 k12087_91 <| x_ist2 k12087_93 (Nat.le_of_ble_eq_true rfl) rfl <| x_ild5 k12087_94 <| x_ist3 k12087_96 (Nat.le_of_ble_eq_true rfl) rfl <| x_inc4 (c := 1) k12087_97 rfl (Nat.le_of_ble_eq_true rfl) rfl <| x_goto (tgt := 44) k12087_100 (by decide) <| (q3 h1 h2 h3)))) (fun h1 => x_sipush (v := 1000) k12087_68 rfl <| x_goto (tgt := 78) k12087_71 (by decide) <| x_ist5 k12087_78 (Nat.le_of_ble_eq_true rfl) rfl <| x_ild2 k12087_80 <| x_iconst (v := (-1)) k12087_81 rfl <| x_icmpeq (tgt := 91) k12087_82 (by decide) (fun h4 => x_ild4 k12087_91 <| x_ist2 k12087_93 (Nat.le_of_ble_eq_true rfl) rfl <| x_ild5 k12087_94 <| x_ist3 k12087_96 (Nat.le_of_ble_eq_true rfl) rfl <| x_inc4 (c := 1) k12087_97 rfl (Nat.le_of_ble_eq_true rfl) rfl <| x_goto (tgt := 44) k12087_100 (by decide) <| (q4 h1 h4)) (fun h4 => x_ild5 k12087_85 <| x_ild3 k12087_87 <| x_icmple (tgt := 97) k12087_88 (by decide) (fun h5 => x_inc4 (c := 1) k12087_97 rfl (Nat.le_of_ble_eq_true rfl) rfl <| x_goto (tgt := 44) k12087_100 (by decide) <| (q5 h1 h4 h5)) (fun h5 => x_ild4 k12087_91 <| x_ist2 k12087_93 (Nat.le_of_ble_eq_true rfl) rfl <| x_ild5 k12087_94 <| x_ist3 k12087_96 (Nat.le_of_ble_eq_true rfl) rfl <| x_inc4 (c := 1) k12087_97 rfl (Nat.le_of_ble_eq_true rfl) rfl <| x_goto (tgt := 44) k12087_100 (by decide) <| (q6 h1 h4 h5))))
theorem plV_r {g : qPg} (v : gV g) {w : Int32} (h : plV g w) : w = -1 ∨ ∃ T, w = nI T ∧ T < 1000 := by
  rcases h with ⟨a, -⟩ | ⟨T, k, a, -, b⟩
  · exact Or.inl a
  · obtain ⟨⟨d, h, r, f, u, z⟩, l⟩ := b
    obtain ⟨h', r', f', T', k', u1, u2, u3⟩ := r_soon v u
    have := l _ _ _ _ _ _ u1 z
    exact Or.inr ⟨T, a, by omega⟩
theorem s12087 {a : Int32} (hK : qLay K sz) (hR : qRef R) (cI : CI I p) (rI : RI I p) (hq : ∀ J, qAf I p J → Q (some (.int (fRuin I p a))) (K, J, L, R, sz)) : X (d + 5) 0 0 12087 0 0 0 (qent (qml 12087) [.ref 73, .int a]) [] (K, I, L, R, sz) Q := by
  have w3 := cI.w3
  have w5 := cI.w5
  have r0 := qAf.refl cI
  unfold fRuin at hq
  refine e12087 (d := d + 3) hK cI rI (fun h1 h2 => ?_) (fun h1 h2 => ?_) (fun h1 => ?_)
  · rw [if_neg (fun z => z h1), if_neg (fun z => z h2)] at hq
    obtain ⟨m, hm, rfl⟩ := h2
    rw [nI_c (by omega)] at hq
    have cF : ∀ J, qFr pPm I J → CI J p ∧ RI J p ∧ ∀ x, gQ J p m x = gQ I p m x := fun J hJ =>
      ⟨(pPm_af hJ cI).2, RI_fr (pPm_af hJ cI).1 rI, fun x => gQ_q (pPm_af hJ cI).1 (by omega) w5⟩
    refine x_cV2 (MCz := 0) (MSz := 0) k12087_24 v12_418_11 (hK.at rfl) (Nat.le_of_ble_eq_true rfl) (Nat.le_of_ble_eq_true rfl) (Nat.le_refl _) (Nat.le_refl _) <| s12080 (d := d) hK hR cI rI h1.2 hm (fun J hJ hO => ?_)
    have hv := plW_is (rOut_V hO)
    refine f12087 hK (fun e => ?_) (fun e => ?_)
    · rw [hv] at e
      rw [if_neg e] at hq
      have hvs : ∀ s, ruV I p m s = -1 ∨ ∃ T, ruV I p m s = nI T ∧ T < 1000 := fun s => by
        have v := gQ_v (x := nI s) cI h1.2 hm
        exact plV_r v (plW_ok v)
      have hl : ∀ (k s : Nat), s + k = pS p → ∀ J b c, qFr pPm I J → ((s = 0 ∧ b = -1 ∧ c = 0 ∧ k = pS p) ∨ (0 < s ∧ ¬ b = -1 ∧ (∃ T, c = nI T ∧ T < 1000) ∧ ruG (ruV I p m) s = (c, b) ∧ ruX (ruV I p m) k s = ruX (ruV I p m) (pS p) 0) ∨ (∃ s0, s0 < s ∧ b = nI s0 ∧ c = 1000 ∧ ruX (ruV I p m) (pS p) 0 = nI s0)) → X (d + 5) 0 0 12087 0 0 44 [some (.ref 73), some (.int (nI m)), some (.int b), some (.int c), some (.int (nI s)), none] [] (K, J, L, R, sz) Q := by
        intro k
        induction k with
        | zero =>
          intro s hs J b c hJ hst
          have lSJ : J 73 24 = nI (pS p) := (cF J hJ).2.1.mS (cF J hJ).1
          have hle : J 73 24 ≤ nI s := by rw [lSJ]; exact nI_le (by omega) (by omega)
          refine g12087 hK (fun _ => ?_) (fun h => absurd hle h)
          have := hq J (pPm_af hJ cI)
          have hb : b = ruX (ruV I p m) (pS p) 0 := by
            rcases hst with ⟨a1, -, -, a4⟩ | ⟨a1, a2, a3, a4, a5⟩ | ⟨s0, a1, a2, a3, a4⟩
            · have := h1.1; omega
            · rw [← a5, ruX, a4]
            · rw [a2, a4]
          rw [hb]; exact this
        | succ k ih =>
          intro s hs J b c hJ hst
          obtain ⟨cJ, rJ, gJ⟩ := cF J hJ
          have lSJ : J 73 24 = nI (pS p) := rJ.mS cJ
          have hnl : ¬ J 73 24 ≤ nI s := by rw [lSJ]; exact nI_ge (by omega) (by omega)
          refine g12087 hK (fun h => absurd h hnl) (fun _ => ?_)
          refine x_cV2 (MCz := 0) (MSz := 0) k12087_57 v12_418_11 (hK.at rfl) (Nat.le_of_ble_eq_true rfl) (Nat.le_of_ble_eq_true rfl) (Nat.le_refl _) (Nat.le_refl _) <| s12080 (d := d) hK hR cJ rJ h1.2 hm (fun E hE hO2 => ?_)
          rw [gJ] at hO2
          have hEv : E 73 48 = ruV I p m s := plW_is (rOut_V hO2)
          have hE' : qFr pPm I E := hJ.trans hE
          have hG := @ruG.eq_2 (ruV I p m) s
          have hX := @ruX.eq_2 (ruV I p m) s k
          obtain ⟨y, hy⟩ : ∃ y, y = ruV I p m s := ⟨_, rfl⟩
          rw [← hy] at hG hX hEv
          have hn1 : ∀ {T : Nat}, T < 1000 → ¬ nI T = -1 := fun h => m1_nI2 h
          have hnx : ∀ b' c', ((0 < s + 1 ∧ ¬ b' = -1 ∧ (∃ T, c' = nI T ∧ T < 1000) ∧ ruG (ruV I p m) (s + 1) = (c', b') ∧ ruX (ruV I p m) k (s + 1) = ruX (ruV I p m) (pS p) 0) ∨ (∃ s0, s0 < s + 1 ∧ b' = nI s0 ∧ c' = 1000 ∧ ruX (ruV I p m) (pS p) 0 = nI s0)) → ∀ z, X (d + 5) 0 0 12087 0 0 44 [some (.ref 73), some (.int (nI m)), some (.int b'), some (.int c'), some (.int (nI s + 1)), some (.int z)] [] (K, E, L, R, sz) Q := fun b' c' h z => by
            rw [nI_1]
            exact x_wk2 (ih (s + 1) (by omega) E b' c' hE' (Or.inr h)) ⟨rfl, rfl, rfl, rfl, rfl, True.intro⟩
          have hys := hvs s
          rw [← hy] at hys
          refine h12087 hK (fun c1 c2 => ?_) (fun c1 c2 c3 => ?_) (fun c1 c2 c3 => ?_) (fun c1 c2 => ?_) (fun c1 c2 c3 => ?_) (fun c1 c2 c3 => ?_)
          · rw [hEv] at c1 ⊢
            obtain ⟨T, hT, hT2⟩ := hys.resolve_left c1
            rw [if_neg c1] at hX
            rcases hst with ⟨a1, a2, a3, a4⟩ | ⟨a1, a2, -⟩ | ⟨s0, a1, a2, -⟩
            · subst a1
              refine hnx _ _ (Or.inl ⟨by omega, m1_nI2 (by omega), ⟨T, hT, hT2⟩, ?_, ?_⟩) _
              · rw [hG]
                have : (ruG (ruV I p m) 0).1 < y := by
                  rw [hT]; show (-1 : Int32) < nI T
                  rw [i_lt, nI_i (by omega)]
                  have e1 : (-1 : Int32).toInt = -1 := rfl
                  rw [e1]; omega
                rw [if_pos this]
              · rw [← a4]; exact hX.symm
            · exact absurd c2 a2
            · rw [a2] at c2; exact absurd c2 (m1_nI2 (by omega))
          · rw [hEv] at c1 c3
            obtain ⟨T, hT, hT2⟩ := hys.resolve_left c1
            rw [if_neg c1] at hX
            rcases hst with ⟨a1, a2, a3, a4⟩ | ⟨a1, a2, a3, a4, a5⟩ | ⟨s0, a1, a2, a3, a4⟩
            · exact absurd a2 c2
            · refine hnx _ _ (Or.inl ⟨by omega, a2, a3, ?_, by rw [← hX]; exact a5⟩) _
              rw [hG, a4, if_neg (Int32.not_lt.mpr c3)]
            · exact hnx _ _ (Or.inr ⟨s0, by omega, a2, a3, a4⟩) _
          · rw [hEv] at c1 c3 ⊢
            obtain ⟨T, hT, hT2⟩ := hys.resolve_left c1
            rw [if_neg c1] at hX
            rcases hst with ⟨a1, a2, a3, a4⟩ | ⟨a1, a2, a3, a4, a5⟩ | ⟨s0, a1, a2, a3, a4⟩
            · exact absurd a2 c2
            · refine hnx _ _ (Or.inl ⟨by omega, m1_nI2 (by omega), ⟨T, hT, hT2⟩, ?_, by rw [← hX]; exact a5⟩) _
              rw [hG, a4, if_pos (Int32.not_le.mp c3)]
            · rw [a3, hT] at c3
              exact absurd (nI_le (b := 1000) (by omega) (by omega)) c3
          · rw [hEv] at c1
            rw [if_pos c1] at hX
            rcases hst with ⟨a1, a2, a3, a4⟩ | ⟨a1, a2, -⟩ | ⟨s0, a1, a2, -⟩
            · refine hnx _ _ (Or.inr ⟨s, by omega, rfl, rfl, ?_⟩) _
              rw [← a4]; subst a1; exact hX
            · exact absurd c2 a2
            · rw [a2] at c2; exact absurd c2 (m1_nI2 (by omega))
          · rcases hst with ⟨a1, a2, a3, a4⟩ | ⟨a1, a2, ⟨T, a3, a3'⟩, a4, a5⟩ | ⟨s0, a1, a2, a3, a4⟩
            · exact absurd a2 c2
            · rw [a3] at c3
              exact absurd c3 (nI_ge (b := 1000) (by omega) (by omega))
            · exact hnx _ _ (Or.inr ⟨s0, by omega, a2, a3, a4⟩) _
          · rw [hEv] at c1
            rw [if_pos c1] at hX
            rcases hst with ⟨a1, a2, a3, a4⟩ | ⟨a1, a2, a3, a4, a5⟩ | ⟨s0, a1, a2, a3, a4⟩
            · exact absurd a2 c2
            · exact hnx _ _ (Or.inr ⟨s, by omega, rfl, rfl, by rw [← a5, hX]⟩) _
            · rw [a3] at c3; exact absurd (Int32.le_refl _) c3
      exact hl (pS p) 0 (by omega) J (-1) 0 hJ (Or.inl ⟨rfl, rfl, rfl, rfl⟩)
    · rw [hv] at e
      rw [if_pos e] at hq
      exact hq J (pPm_af hJ cI)
  · rw [if_neg (fun z => z h1), if_pos h2] at hq; exact hq I r0
  · rw [if_pos h1] at hq; exact hq I r0

end L99n
