/-! the law: planner and duel, made at need -/
section L99x
variable {nA wb : Nat} {aF : Nat → Int32} {d MC MS uc us : Nat} {K : qK} {I : Nat → Nat → Int32} {L : Nat → Nat → Int64} {R : Nat → Nat → Option Nat} {sz : Nat} {Q : Option Value → qMem → Prop} {i : Int32} {a5 a6 : Option Value}
theorem bC_16 (h : R 0 16 = none) : 3 ≤ bC R ∧ 80017 ≤ bS R ∧ 4 ≤ bZ R := by
  unfold bC bS bZ
  simp only [if_pos h]; exact ⟨by omega, by omega, by omega⟩
theorem bC_17 (h : R 0 17 = none) : 4 ≤ bC R ∧ 17510 ≤ bS R ∧ 4 ≤ bZ R := by
  unfold bC bS bZ
  simp only [if_pos h]; exact ⟨by omega, by omega, by omega⟩
theorem gp_LV {p : qPa} {K' : qK} {I' : Nat → Nat → Int32} {R' : Nat → Nat → Option Nat} {sz' q : Nat} (hK : qLay K sz) (hR : qRef R) (hP : qPD K R sz) (c : CI I p) (g : qGp K I R sz K' I' R' sz' q) : qLay K' sz' ∧ qRef R' ∧ qPD K' R' sz' ∧ qAf I p I' ∧ (R 0 16 = none → bC R = bC R' + 3 ∧ bS R = bS R' + 80017 ∧ bZ R = bZ R' + 4) ∧ (¬ R 0 16 = none → bC R = bC R' ∧ bS R = bS R' ∧ bZ R = bZ R') ∧ (sz' = sz ∨ (R 0 16 = none ∧ sz' ≤ sz + 4)) := by
  obtain ⟨⟨g1, g2⟩, k, lo, r, r0, r16, pl⟩ := g
  have e17 : R' 0 17 = R 0 17 := r0 17 (by decide)
  have h16 : ¬ R' 0 16 = none := fun e => by rw [r16] at e; cases e
  refine ⟨⟨Nat.le_trans hK.1 g1, fun i z e => by rw [k i (hK.at e).1]; exact hK.2 i z e⟩, fun i z x e => ?_, ⟨Or.inr ⟨q, r16, pl⟩, ?_⟩, lo.af c, fun h => ?_, fun h => ?_, g2⟩
  · by_cases hi : i = 0
    · subst hi
      have : z ≠ 16 := fun w => by subst w; cases e
      rw [r0 z this]; exact hR 0 z x e
    · have hi7 : i < 107 := Nat.not_le.mp (fun w => by rw [qlr_hi w] at e; cases e)
      have := hK.1
      have := pl.1
      rw [r i hi (by omega) (by omega)]; exact hR i z x e
  · rcases hP.2 with h | ⟨u, h, d1, d2, k0, k1, k2, k3, f, h4⟩
    · exact Or.inl (e17.trans h)
    · have hu : u ≠ q := fun w => by
        subst w
        have := pl.2.2.1
        rw [k u (by omega), k0] at this
        cases this
      have hr : R' u = R u := r u (by omega) (by omega) hu
      refine Or.inr ⟨u, e17.trans h, d1, by omega, by rw [k _ (by omega)]; exact k0, by rw [k _ (by omega)]; exact k1, by rw [k _ (by omega)]; exact k2, by rw [k _ (by omega)]; exact k3, by rw [hr]; exact f, by rw [hr]; exact h4⟩
  · unfold bC bS bZ
    by_cases h7 : R 0 17 = none <;> simp [e17, h16, h, h7]
  · unfold bC bS bZ
    by_cases h7 : R 0 17 = none <;> simp [e17, h16, h, h7]
theorem gr_LV {p : qPa} {K' : qK} {I' : Nat → Nat → Int32} {R' : Nat → Nat → Option Nat} {sz' u : Nat} (hK : qLay K sz) (hR : qRef R) (hP : qPD K R sz) (c : CI I p) (g : qGr K I R sz K' I' R' sz' u) : qLay K' sz' ∧ qRef R' ∧ qPD K' R' sz' ∧ qAf I p I' ∧ (R 0 17 = none → bC R = bC R' + 4 ∧ bS R = bS R' + 17510 ∧ bZ R = bZ R' + 4) ∧ (¬ R 0 17 = none → bC R = bC R' ∧ bS R = bS R' ∧ bZ R = bZ R') ∧ (sz' = sz ∨ (R 0 17 = none ∧ sz' ≤ sz + 4)) := by
  obtain ⟨⟨g1, g2⟩, k, lo, r, r0, r17, du⟩ := g
  have e16 : R' 0 16 = R 0 16 := r0 16 (by decide)
  have h17 : ¬ R' 0 17 = none := fun e => by rw [r17] at e; cases e
  refine ⟨⟨Nat.le_trans hK.1 g1, fun i z e => by rw [k i (hK.at e).1]; exact hK.2 i z e⟩, fun i z x e => ?_, ⟨?_, Or.inr ⟨u, r17, du⟩⟩, lo.af c, fun h => ?_, fun h => ?_, g2⟩
  · by_cases hi : i = 0
    · subst hi
      have : z ≠ 17 := fun w => by subst w; cases e
      rw [r0 z this]; exact hR 0 z x e
    · have hi7 : i < 107 := Nat.not_le.mp (fun w => by rw [qlr_hi w] at e; cases e)
      have := hK.1
      have := du.1
      rw [r i hi (by omega) (by omega)]; exact hR i z x e
  · rcases hP.1 with h | ⟨q, h, d1, d2, k0, k1, k2, f1, f2⟩
    · exact Or.inl (e16.trans h)
    · have hu : q ≠ u := fun w => by
        subst w
        have := du.2.2.1
        rw [k q (by omega), k0] at this
        cases this
      have hr : R' q = R q := r q (by omega) (by omega) hu
      refine Or.inr ⟨q, e16.trans h, d1, by omega, by rw [k _ (by omega)]; exact k0, by rw [k _ (by omega)]; exact k1, by rw [k _ (by omega)]; exact k2, by rw [hr]; exact f1, by rw [hr]; exact f2⟩
  · unfold bC bS bZ
    by_cases h6 : R 0 16 = none <;> simp [e16, h17, h, h6]
  · unfold bC bS bZ
    by_cases h6 : R 0 16 = none <;> simp [e16, h17, h, h6]
theorem law_19 (v1 : vp_in (i + 1) nA) (v2 : vp_in (i + 2) nA) (v3 : vp_in (i + 3) nA) (v4 : vp_in (i + 4) nA) (v5 : vp_in (i + 5) nA) (hV : LVb wb MC MS uc us K R sz I) (kt : ∀ (uc us : Nat) (K : qK) (I : Nat → Nat → Int32) (L : Nat → Nat → Int64) (R : Nat → Nat → Option Nat) (sz : Nat), LVb wb MC MS uc us K R sz I → XZ nA aF (d + 60) MC MS 13000 uc us 1637 [some (.ref 1000006), some (.ref 0), some (.ref 73), some (.ref 106), some (.int i), a5, a6] [] (K, I, L, R, sz) Q) : XZ nA aF (d + 60) MC MS 13000 uc us 950 [some (.ref 1000006), some (.ref 0), some (.ref 73), some (.ref 106), some (.int i), a5, a6] [] (K, I, L, R, sz) Q := by
  obtain ⟨⟨hK, hR, hP, p, h⟩, b1, b2⟩ := hV
  have u1 : uc ≤ MC := by omega
  have u2 : us ≤ MS := by have := b2.1; omega
  by_cases ask : (fewQ p ∧ (qIn (pM p) (aF (i + 1).toNatClampNeg) ∧ ¬ aF (i + 2).toNatClampNeg < 0 ∧ aF (i + 2).toNatClampNeg ≤ 2))
  · by_cases hn : R 0 16 = none
    · have hz := bC_16 hn
      have w1 : uc + 3 ≤ MC := by omega
      have w2 : us + 80017 ≤ MS := by have := b2.1; omega
      refine z_ald1 k13000_950 <| z_ald0 k13000_951 <| z_ild4 k13000_952 <| z_iconst (v := 1) k13000_954 rfl <| z_iadd k13000_955 <| z_arg k13000_956 v1 <| z_ald0 k13000_957 <| z_ild4 k13000_958 <| z_iconst (v := 2) k13000_960 rfl <| z_iadd k13000_961 <| z_arg k13000_962 v2 <| z_cV2 (MCz := 3) (MSz := 80017) k13000_963 v13_107_10 (hK.at rfl) (Nat.le_of_ble_eq_true rfl) (Nat.le_of_ble_eq_true rfl) w1 w2 <| s11020 hK hR h.1 (fun _ => Or.inr ⟨hn, by have := b2.2; omega, Nat.le_refl _, Nat.le_refl _⟩) (fun na => absurd ask na) (fun _ v K' I' R' sz' q hv g => ?_)
      obtain ⟨hK', hR', hP', g', e1, -, e3⟩ := gp_LV hK hR hP h.1 g
      have e1 := e1 hn
      have h' := iNV_q h g'
      have bb : LVb wb MC MS (uc + 3) (us + 80017) K' R' sz' I' := ⟨⟨hK', hR', hP', p, h'⟩, by omega, by have := b2.1; omega, by have := b2.2; omega⟩
      exact z_ald2 k13000_966 <| z_ald0 k13000_967 <| z_ild4 k13000_968 <| z_iconst (v := 1) k13000_970 rfl <| z_iadd k13000_971 <| z_arg k13000_972 v1 <| z_ald0 k13000_973 <| z_ild4 k13000_974 <| z_iconst (v := 2) k13000_976 rfl <| z_iadd k13000_977 <| z_arg k13000_978 v2 <| z_cV2 (MCz := 0) (MSz := 0) k13000_979 v13_110_11 (hK'.at rfl) (Nat.le_of_ble_eq_true rfl) (Nat.le_of_ble_eq_true rfl) w1 w2 <| s12084 hK' hR' h'.1 h'.2.1 (fun J2 v2 g2 hv2 => z_icmpeq (tgt := 1637) k13000_982 (by decide) (fun _ => kt (uc + 3) (us + 80017) K' J2 L R' sz' ⟨⟨hK', hR', hP', p, iNV_q h' g2⟩, bb.2⟩) (fun q => absurd (plQ_1 (plQ_q h.1 g'.1 hv) hv2) q))
    · obtain ⟨q0, hq0, hpl⟩ := hP.1.resolve_left hn
      refine z_ald1 k13000_950 <| z_ald0 k13000_951 <| z_ild4 k13000_952 <| z_iconst (v := 1) k13000_954 rfl <| z_iadd k13000_955 <| z_arg k13000_956 v1 <| z_ald0 k13000_957 <| z_ild4 k13000_958 <| z_iconst (v := 2) k13000_960 rfl <| z_iadd k13000_961 <| z_arg k13000_962 v2 <| z_cV2 (MCz := 0) (MSz := 0) k13000_963 v13_107_10 (hK.at rfl) (Nat.le_of_ble_eq_true rfl) (Nat.le_of_ble_eq_true rfl) u1 u2 <| s11020 hK hR h.1 (fun _ => Or.inl ⟨q0, hq0, hpl⟩) (fun na => absurd ask na) (fun _ v K' I' R' sz' q hv g => ?_)
      obtain ⟨hK', hR', hP', g', -, e2, e3⟩ := gp_LV hK hR hP h.1 g
      have e2 := e2 hn
      have h' := iNV_q h g'
      have e3 : sz' = sz := e3.resolve_right (fun w => hn w.1)
      have bb : LVb wb MC MS uc us K' R' sz' I' := ⟨⟨hK', hR', hP', p, h'⟩, by omega, by have := b2.1; omega, by have := b2.2; omega⟩
      exact z_ald2 k13000_966 <| z_ald0 k13000_967 <| z_ild4 k13000_968 <| z_iconst (v := 1) k13000_970 rfl <| z_iadd k13000_971 <| z_arg k13000_972 v1 <| z_ald0 k13000_973 <| z_ild4 k13000_974 <| z_iconst (v := 2) k13000_976 rfl <| z_iadd k13000_977 <| z_arg k13000_978 v2 <| z_cV2 (MCz := 0) (MSz := 0) k13000_979 v13_110_11 (hK'.at rfl) (Nat.le_of_ble_eq_true rfl) (Nat.le_of_ble_eq_true rfl) u1 u2 <| s12084 hK' hR' h'.1 h'.2.1 (fun J2 v2 g2 hv2 => z_icmpeq (tgt := 1637) k13000_982 (by decide) (fun _ => kt uc us K' J2 L R' sz' ⟨⟨hK', hR', hP', p, iNV_q h' g2⟩, bb.2⟩) (fun q => absurd (plQ_1 (plQ_q h.1 g'.1 hv) hv2) q))
  · refine z_ald1 k13000_950 <| z_ald0 k13000_951 <| z_ild4 k13000_952 <| z_iconst (v := 1) k13000_954 rfl <| z_iadd k13000_955 <| z_arg k13000_956 v1 <| z_ald0 k13000_957 <| z_ild4 k13000_958 <| z_iconst (v := 2) k13000_960 rfl <| z_iadd k13000_961 <| z_arg k13000_962 v2 <| z_cV2 (MCz := 0) (MSz := 0) k13000_963 v13_107_10 (hK.at rfl) (Nat.le_of_ble_eq_true rfl) (Nat.le_of_ble_eq_true rfl) u1 u2 <| s11020 hK hR h.1 (fun w => absurd w ask) (fun _ v hv => ?_) (fun w => absurd w ask)
    exact z_ald2 k13000_966 <| z_ald0 k13000_967 <| z_ild4 k13000_968 <| z_iconst (v := 1) k13000_970 rfl <| z_iadd k13000_971 <| z_arg k13000_972 v1 <| z_ald0 k13000_973 <| z_ild4 k13000_974 <| z_iconst (v := 2) k13000_976 rfl <| z_iadd k13000_977 <| z_arg k13000_978 v2 <| z_cV2 (MCz := 0) (MSz := 0) k13000_979 v13_110_11 (hK.at rfl) (Nat.le_of_ble_eq_true rfl) (Nat.le_of_ble_eq_true rfl) u1 u2 <| s12084 hK hR h.1 h.2.1 (fun J2 v2 g2 hv2 => z_icmpeq (tgt := 1637) k13000_982 (by decide) (fun _ => kt uc us K J2 L R sz ⟨⟨hK, hR, hP, p, iNV_q h g2⟩, b1, b2⟩) (fun q => absurd (plQ_1 (id hv) hv2) q))
theorem law_21 (v1 : vp_in (i + 1) nA) (v2 : vp_in (i + 2) nA) (v3 : vp_in (i + 3) nA) (v4 : vp_in (i + 4) nA) (v5 : vp_in (i + 5) nA) (hV : LVb wb MC MS uc us K R sz I) (kt : ∀ (uc us : Nat) (K : qK) (I : Nat → Nat → Int32) (L : Nat → Nat → Int64) (R : Nat → Nat → Option Nat) (sz : Nat), LVb wb MC MS uc us K R sz I → XZ nA aF (d + 60) MC MS 13000 uc us 1637 [some (.ref 1000006), some (.ref 0), some (.ref 73), some (.ref 106), some (.int i), a5, a6] [] (K, I, L, R, sz) Q) : XZ nA aF (d + 60) MC MS 13000 uc us 1012 [some (.ref 1000006), some (.ref 0), some (.ref 73), some (.ref 106), some (.int i), a5, a6] [] (K, I, L, R, sz) Q := by
  obtain ⟨⟨hK, hR, hP, p, h⟩, b1, b2⟩ := hV
  have u1 : uc ≤ MC := by omega
  have u2 : us ≤ MS := by have := b2.1; omega
  by_cases ask : (fewQ p ∧ (qIn (pM p) (aF (i + 1).toNatClampNeg) ∧ qIn (pS p) (aF (i + 2).toNatClampNeg)))
  · by_cases hn : R 0 16 = none
    · have hz := bC_16 hn
      have w1 : uc + 3 ≤ MC := by omega
      have w2 : us + 80017 ≤ MS := by have := b2.1; omega
      refine z_ald1 k13000_1012 <| z_ald0 k13000_1013 <| z_ild4 k13000_1014 <| z_iconst (v := 1) k13000_1016 rfl <| z_iadd k13000_1017 <| z_arg k13000_1018 v1 <| z_ald0 k13000_1019 <| z_ild4 k13000_1020 <| z_iconst (v := 2) k13000_1022 rfl <| z_iadd k13000_1023 <| z_arg k13000_1024 v2 <| z_cV2 (MCz := 3) (MSz := 80017) k13000_1025 v13_115_10 (hK.at rfl) (Nat.le_of_ble_eq_true rfl) (Nat.le_of_ble_eq_true rfl) w1 w2 <| s11022 hK hR h.1 (fun _ => Or.inr ⟨hn, by have := b2.2; omega, Nat.le_refl _, Nat.le_refl _⟩) (fun na => absurd ask na) (fun _ v K' I' R' sz' q hv g => ?_)
      obtain ⟨hK', hR', hP', g', e1, -, e3⟩ := gp_LV hK hR hP h.1 g
      have e1 := e1 hn
      have h' := iNV_q h g'
      have bb : LVb wb MC MS (uc + 3) (us + 80017) K' R' sz' I' := ⟨⟨hK', hR', hP', p, h'⟩, by omega, by have := b2.1; omega, by have := b2.2; omega⟩
      exact z_ald2 k13000_1028 <| z_ald0 k13000_1029 <| z_ild4 k13000_1030 <| z_iconst (v := 1) k13000_1032 rfl <| z_iadd k13000_1033 <| z_arg k13000_1034 v1 <| z_ald0 k13000_1035 <| z_ild4 k13000_1036 <| z_iconst (v := 2) k13000_1038 rfl <| z_iadd k13000_1039 <| z_arg k13000_1040 v2 <| z_cV2 (MCz := 0) (MSz := 0) k13000_1041 v13_118_11 (hK'.at rfl) (Nat.le_of_ble_eq_true rfl) (Nat.le_of_ble_eq_true rfl) w1 w2 <| s12086 hK' hR' h'.1 h'.2.1 (fun J2 v2 g2 hv2 => z_icmpeq (tgt := 1637) k13000_1044 (by decide) (fun _ => kt (uc + 3) (us + 80017) K' J2 L R' sz' ⟨⟨hK', hR', hP', p, iNV_q h' g2⟩, bb.2⟩) (fun q => absurd (stnQ_1 (stnQ_q h.1 g'.1 hv) hv2) q))
    · obtain ⟨q0, hq0, hpl⟩ := hP.1.resolve_left hn
      refine z_ald1 k13000_1012 <| z_ald0 k13000_1013 <| z_ild4 k13000_1014 <| z_iconst (v := 1) k13000_1016 rfl <| z_iadd k13000_1017 <| z_arg k13000_1018 v1 <| z_ald0 k13000_1019 <| z_ild4 k13000_1020 <| z_iconst (v := 2) k13000_1022 rfl <| z_iadd k13000_1023 <| z_arg k13000_1024 v2 <| z_cV2 (MCz := 0) (MSz := 0) k13000_1025 v13_115_10 (hK.at rfl) (Nat.le_of_ble_eq_true rfl) (Nat.le_of_ble_eq_true rfl) u1 u2 <| s11022 hK hR h.1 (fun _ => Or.inl ⟨q0, hq0, hpl⟩) (fun na => absurd ask na) (fun _ v K' I' R' sz' q hv g => ?_)
      obtain ⟨hK', hR', hP', g', -, e2, e3⟩ := gp_LV hK hR hP h.1 g
      have e2 := e2 hn
      have h' := iNV_q h g'
      have e3 : sz' = sz := e3.resolve_right (fun w => hn w.1)
      have bb : LVb wb MC MS uc us K' R' sz' I' := ⟨⟨hK', hR', hP', p, h'⟩, by omega, by have := b2.1; omega, by have := b2.2; omega⟩
      exact z_ald2 k13000_1028 <| z_ald0 k13000_1029 <| z_ild4 k13000_1030 <| z_iconst (v := 1) k13000_1032 rfl <| z_iadd k13000_1033 <| z_arg k13000_1034 v1 <| z_ald0 k13000_1035 <| z_ild4 k13000_1036 <| z_iconst (v := 2) k13000_1038 rfl <| z_iadd k13000_1039 <| z_arg k13000_1040 v2 <| z_cV2 (MCz := 0) (MSz := 0) k13000_1041 v13_118_11 (hK'.at rfl) (Nat.le_of_ble_eq_true rfl) (Nat.le_of_ble_eq_true rfl) u1 u2 <| s12086 hK' hR' h'.1 h'.2.1 (fun J2 v2 g2 hv2 => z_icmpeq (tgt := 1637) k13000_1044 (by decide) (fun _ => kt uc us K' J2 L R' sz' ⟨⟨hK', hR', hP', p, iNV_q h' g2⟩, bb.2⟩) (fun q => absurd (stnQ_1 (stnQ_q h.1 g'.1 hv) hv2) q))
  · refine z_ald1 k13000_1012 <| z_ald0 k13000_1013 <| z_ild4 k13000_1014 <| z_iconst (v := 1) k13000_1016 rfl <| z_iadd k13000_1017 <| z_arg k13000_1018 v1 <| z_ald0 k13000_1019 <| z_ild4 k13000_1020 <| z_iconst (v := 2) k13000_1022 rfl <| z_iadd k13000_1023 <| z_arg k13000_1024 v2 <| z_cV2 (MCz := 0) (MSz := 0) k13000_1025 v13_115_10 (hK.at rfl) (Nat.le_of_ble_eq_true rfl) (Nat.le_of_ble_eq_true rfl) u1 u2 <| s11022 hK hR h.1 (fun w => absurd w ask) (fun _ v hv => ?_) (fun w => absurd w ask)
    exact z_ald2 k13000_1028 <| z_ald0 k13000_1029 <| z_ild4 k13000_1030 <| z_iconst (v := 1) k13000_1032 rfl <| z_iadd k13000_1033 <| z_arg k13000_1034 v1 <| z_ald0 k13000_1035 <| z_ild4 k13000_1036 <| z_iconst (v := 2) k13000_1038 rfl <| z_iadd k13000_1039 <| z_arg k13000_1040 v2 <| z_cV2 (MCz := 0) (MSz := 0) k13000_1041 v13_118_11 (hK.at rfl) (Nat.le_of_ble_eq_true rfl) (Nat.le_of_ble_eq_true rfl) u1 u2 <| s12086 hK hR h.1 h.2.1 (fun J2 v2 g2 hv2 => z_icmpeq (tgt := 1637) k13000_1044 (by decide) (fun _ => kt uc us K J2 L R sz ⟨⟨hK, hR, hP, p, iNV_q h g2⟩, b1, b2⟩) (fun q => absurd (stnQ_1 (id hv) hv2) q))
theorem law_22 (v1 : vp_in (i + 1) nA) (v2 : vp_in (i + 2) nA) (v3 : vp_in (i + 3) nA) (v4 : vp_in (i + 4) nA) (v5 : vp_in (i + 5) nA) (hV : LVb wb MC MS uc us K R sz I) (kt : ∀ (uc us : Nat) (K : qK) (I : Nat → Nat → Int32) (L : Nat → Nat → Int64) (R : Nat → Nat → Option Nat) (sz : Nat), LVb wb MC MS uc us K R sz I → XZ nA aF (d + 60) MC MS 13000 uc us 1637 [some (.ref 1000006), some (.ref 0), some (.ref 73), some (.ref 106), some (.int i), a5, a6] [] (K, I, L, R, sz) Q) : XZ nA aF (d + 60) MC MS 13000 uc us 1049 [some (.ref 1000006), some (.ref 0), some (.ref 73), some (.ref 106), some (.int i), a5, a6] [] (K, I, L, R, sz) Q := by
  obtain ⟨⟨hK, hR, hP, p, h⟩, b1, b2⟩ := hV
  have u1 : uc ≤ MC := by omega
  have u2 : us ≤ MS := by have := b2.1; omega
  by_cases ask : (fewQ p ∧ qIn (pM p) (aF (i + 1).toNatClampNeg))
  · by_cases hn : R 0 16 = none
    · have hz := bC_16 hn
      have w1 : uc + 3 ≤ MC := by omega
      have w2 : us + 80017 ≤ MS := by have := b2.1; omega
      refine z_ald1 k13000_1049 <| z_ald0 k13000_1050 <| z_ild4 k13000_1051 <| z_iconst (v := 1) k13000_1053 rfl <| z_iadd k13000_1054 <| z_arg k13000_1055 v1 <| z_cV1 (MCz := 3) (MSz := 80017) k13000_1056 v13_119_10 (hK.at rfl) (Nat.le_of_ble_eq_true rfl) (Nat.le_of_ble_eq_true rfl) w1 w2 <| s11023 hK hR h.1 (fun _ => Or.inr ⟨hn, by have := b2.2; omega, Nat.le_refl _, Nat.le_refl _⟩) (fun na => absurd ask na) (fun _ K' I' R' sz' q g => ?_)
      obtain ⟨hK', hR', hP', g', e1, -, e3⟩ := gp_LV hK hR hP h.1 g
      have e1 := e1 hn
      have h' := iNV_q h g'
      have bb : LVb wb MC MS (uc + 3) (us + 80017) K' R' sz' I' := ⟨⟨hK', hR', hP', p, h'⟩, by omega, by have := b2.1; omega, by have := b2.2; omega⟩
      exact z_ald2 k13000_1059 <| z_ald0 k13000_1060 <| z_ild4 k13000_1061 <| z_iconst (v := 1) k13000_1063 rfl <| z_iadd k13000_1064 <| z_arg k13000_1065 v1 <| z_cV1 (MCz := 0) (MSz := 0) k13000_1066 v13_122_11 (hK'.at rfl) (Nat.le_of_ble_eq_true rfl) (Nat.le_of_ble_eq_true rfl) w1 w2 <| s12087 hK' hR' h'.1 h'.2.1 (fun J2 g2 => z_icmpeq (tgt := 1637) k13000_1069 (by decide) (fun _ => kt (uc + 3) (us + 80017) K' J2 L R' sz' ⟨⟨hK', hR', hP', p, iNV_q h' g2⟩, bb.2⟩) (fun q => absurd (fRuin_q h.1 g'.1).symm q))
    · obtain ⟨q0, hq0, hpl⟩ := hP.1.resolve_left hn
      refine z_ald1 k13000_1049 <| z_ald0 k13000_1050 <| z_ild4 k13000_1051 <| z_iconst (v := 1) k13000_1053 rfl <| z_iadd k13000_1054 <| z_arg k13000_1055 v1 <| z_cV1 (MCz := 0) (MSz := 0) k13000_1056 v13_119_10 (hK.at rfl) (Nat.le_of_ble_eq_true rfl) (Nat.le_of_ble_eq_true rfl) u1 u2 <| s11023 hK hR h.1 (fun _ => Or.inl ⟨q0, hq0, hpl⟩) (fun na => absurd ask na) (fun _ K' I' R' sz' q g => ?_)
      obtain ⟨hK', hR', hP', g', -, e2, e3⟩ := gp_LV hK hR hP h.1 g
      have e2 := e2 hn
      have h' := iNV_q h g'
      have e3 : sz' = sz := e3.resolve_right (fun w => hn w.1)
      have bb : LVb wb MC MS uc us K' R' sz' I' := ⟨⟨hK', hR', hP', p, h'⟩, by omega, by have := b2.1; omega, by have := b2.2; omega⟩
      exact z_ald2 k13000_1059 <| z_ald0 k13000_1060 <| z_ild4 k13000_1061 <| z_iconst (v := 1) k13000_1063 rfl <| z_iadd k13000_1064 <| z_arg k13000_1065 v1 <| z_cV1 (MCz := 0) (MSz := 0) k13000_1066 v13_122_11 (hK'.at rfl) (Nat.le_of_ble_eq_true rfl) (Nat.le_of_ble_eq_true rfl) u1 u2 <| s12087 hK' hR' h'.1 h'.2.1 (fun J2 g2 => z_icmpeq (tgt := 1637) k13000_1069 (by decide) (fun _ => kt uc us K' J2 L R' sz' ⟨⟨hK', hR', hP', p, iNV_q h' g2⟩, bb.2⟩) (fun q => absurd (fRuin_q h.1 g'.1).symm q))
  · refine z_ald1 k13000_1049 <| z_ald0 k13000_1050 <| z_ild4 k13000_1051 <| z_iconst (v := 1) k13000_1053 rfl <| z_iadd k13000_1054 <| z_arg k13000_1055 v1 <| z_cV1 (MCz := 0) (MSz := 0) k13000_1056 v13_119_10 (hK.at rfl) (Nat.le_of_ble_eq_true rfl) (Nat.le_of_ble_eq_true rfl) u1 u2 <| s11023 hK hR h.1 (fun w => absurd w ask) (fun _ => ?_) (fun w => absurd w ask)
    exact z_ald2 k13000_1059 <| z_ald0 k13000_1060 <| z_ild4 k13000_1061 <| z_iconst (v := 1) k13000_1063 rfl <| z_iadd k13000_1064 <| z_arg k13000_1065 v1 <| z_cV1 (MCz := 0) (MSz := 0) k13000_1066 v13_122_11 (hK.at rfl) (Nat.le_of_ble_eq_true rfl) (Nat.le_of_ble_eq_true rfl) u1 u2 <| s12087 hK hR h.1 h.2.1 (fun J2 g2 => z_icmpeq (tgt := 1637) k13000_1069 (by decide) (fun _ => kt uc us K J2 L R sz ⟨⟨hK, hR, hP, p, iNV_q h g2⟩, b1, b2⟩) (fun q => absurd rfl q))
theorem law_23 (v1 : vp_in (i + 1) nA) (v2 : vp_in (i + 2) nA) (v3 : vp_in (i + 3) nA) (v4 : vp_in (i + 4) nA) (v5 : vp_in (i + 5) nA) (hV : LVb wb MC MS uc us K R sz I) (kt : ∀ (uc us : Nat) (K : qK) (I : Nat → Nat → Int32) (L : Nat → Nat → Int64) (R : Nat → Nat → Option Nat) (sz : Nat), LVb wb MC MS uc us K R sz I → XZ nA aF (d + 60) MC MS 13000 uc us 1637 [some (.ref 1000006), some (.ref 0), some (.ref 73), some (.ref 106), some (.int i), a5, a6] [] (K, I, L, R, sz) Q) : XZ nA aF (d + 60) MC MS 13000 uc us 1074 [some (.ref 1000006), some (.ref 0), some (.ref 73), some (.ref 106), some (.int i), a5, a6] [] (K, I, L, R, sz) Q := by
  obtain ⟨⟨hK, hR, hP, p, h⟩, b1, b2⟩ := hV
  have u1 : uc ≤ MC := by omega
  have u2 : us ≤ MS := by have := b2.1; omega
  by_cases ask : rvG p (aF (i + 1).toNatClampNeg) (aF (i + 2).toNatClampNeg) (aF (i + 3).toNatClampNeg) (aF (i + 4).toNatClampNeg)
  · by_cases hn : R 0 17 = none
    · have hz := bC_17 hn
      have w1 : uc + 4 ≤ MC := by omega
      have w2 : us + 17510 ≤ MS := by have := b2.1; omega
      refine z_ald1 k13000_1074 <| z_ald0 k13000_1075 <| z_ild4 k13000_1076 <| z_iconst (v := 1) k13000_1078 rfl <| z_iadd k13000_1079 <| z_arg k13000_1080 v1 <| z_ald0 k13000_1081 <| z_ild4 k13000_1082 <| z_iconst (v := 2) k13000_1084 rfl <| z_iadd k13000_1085 <| z_arg k13000_1086 v2 <| z_ald0 k13000_1087 <| z_ild4 k13000_1088 <| z_iconst (v := 3) k13000_1090 rfl <| z_iadd k13000_1091 <| z_arg k13000_1092 v3 <| z_ald0 k13000_1093 <| z_ild4 k13000_1094 <| z_iconst (v := 4) k13000_1096 rfl <| z_iadd k13000_1097 <| z_arg k13000_1098 v4 <| z_cV4 (MCz := 4) (MSz := 17510) k13000_1099 v13_123_10 (hK.at rfl) (Nat.le_of_ble_eq_true rfl) (Nat.le_of_ble_eq_true rfl) w1 w2 <| s11024n hK hR h.1 hn (by have := b2.2; omega) ask (fun K' I' R' sz' g => ?_)
      obtain ⟨hK', hR', hP', g', e1, -, e3⟩ := gr_LV hK hR hP h.1 g
      have e1 := e1 hn
      have h' := iNV_q h g'
      have bb : LVb wb MC MS (uc + 4) (us + 17510) K' R' sz' I' := ⟨⟨hK', hR', hP', p, h'⟩, by omega, by have := b2.1; omega, by have := b2.2; omega⟩
      exact z_ald2 k13000_1102 <| z_ald0 k13000_1103 <| z_ild4 k13000_1104 <| z_iconst (v := 1) k13000_1106 rfl <| z_iadd k13000_1107 <| z_arg k13000_1108 v1 <| z_ald0 k13000_1109 <| z_ild4 k13000_1110 <| z_iconst (v := 2) k13000_1112 rfl <| z_iadd k13000_1113 <| z_arg k13000_1114 v2 <| z_ald0 k13000_1115 <| z_ild4 k13000_1116 <| z_iconst (v := 3) k13000_1118 rfl <| z_iadd k13000_1119 <| z_arg k13000_1120 v3 <| z_ald0 k13000_1121 <| z_ild4 k13000_1122 <| z_iconst (v := 4) k13000_1124 rfl <| z_iadd k13000_1125 <| z_arg k13000_1126 v4 <| z_cV4 (MCz := 0) (MSz := 0) k13000_1127 v13_126_11 (hK'.at rfl) (Nat.le_of_ble_eq_true rfl) (Nat.le_of_ble_eq_true rfl) w1 w2 <| s12090 hK' hR' h'.1 h'.2.1 h'.2.2.2.2.2.2.2.2 (fun J2 g2 => z_icmpeq (tgt := 1637) k13000_1130 (by decide) (fun _ => kt (uc + 4) (us + 17510) K' J2 L R' sz' ⟨⟨hK', hR', hP', p, iNV_q h' g2⟩, bb.2⟩) (fun q => absurd (fRv_lo g.2.2.1 h.1).symm q))
    · obtain ⟨q0, hq0, hdu⟩ := hP.2.resolve_left hn
      refine z_ald1 k13000_1074 <| z_ald0 k13000_1075 <| z_ild4 k13000_1076 <| z_iconst (v := 1) k13000_1078 rfl <| z_iadd k13000_1079 <| z_arg k13000_1080 v1 <| z_ald0 k13000_1081 <| z_ild4 k13000_1082 <| z_iconst (v := 2) k13000_1084 rfl <| z_iadd k13000_1085 <| z_arg k13000_1086 v2 <| z_ald0 k13000_1087 <| z_ild4 k13000_1088 <| z_iconst (v := 3) k13000_1090 rfl <| z_iadd k13000_1091 <| z_arg k13000_1092 v3 <| z_ald0 k13000_1093 <| z_ild4 k13000_1094 <| z_iconst (v := 4) k13000_1096 rfl <| z_iadd k13000_1097 <| z_arg k13000_1098 v4 <| z_cV4 (MCz := 0) (MSz := 0) k13000_1099 v13_123_10 (hK.at rfl) (Nat.le_of_ble_eq_true rfl) (Nat.le_of_ble_eq_true rfl) u1 u2 <| s11024m hK hR h.1 hdu hq0 ask (fun K' I' R' sz' g => ?_)
      obtain ⟨hK', hR', hP', g', -, e2, e3⟩ := gr_LV hK hR hP h.1 g
      have e2 := e2 hn
      have h' := iNV_q h g'
      have e3 : sz' = sz := e3.resolve_right (fun w => hn w.1)
      have bb : LVb wb MC MS uc us K' R' sz' I' := ⟨⟨hK', hR', hP', p, h'⟩, by omega, by have := b2.1; omega, by have := b2.2; omega⟩
      exact z_ald2 k13000_1102 <| z_ald0 k13000_1103 <| z_ild4 k13000_1104 <| z_iconst (v := 1) k13000_1106 rfl <| z_iadd k13000_1107 <| z_arg k13000_1108 v1 <| z_ald0 k13000_1109 <| z_ild4 k13000_1110 <| z_iconst (v := 2) k13000_1112 rfl <| z_iadd k13000_1113 <| z_arg k13000_1114 v2 <| z_ald0 k13000_1115 <| z_ild4 k13000_1116 <| z_iconst (v := 3) k13000_1118 rfl <| z_iadd k13000_1119 <| z_arg k13000_1120 v3 <| z_ald0 k13000_1121 <| z_ild4 k13000_1122 <| z_iconst (v := 4) k13000_1124 rfl <| z_iadd k13000_1125 <| z_arg k13000_1126 v4 <| z_cV4 (MCz := 0) (MSz := 0) k13000_1127 v13_126_11 (hK'.at rfl) (Nat.le_of_ble_eq_true rfl) (Nat.le_of_ble_eq_true rfl) u1 u2 <| s12090 hK' hR' h'.1 h'.2.1 h'.2.2.2.2.2.2.2.2 (fun J2 g2 => z_icmpeq (tgt := 1637) k13000_1130 (by decide) (fun _ => kt uc us K' J2 L R' sz' ⟨⟨hK', hR', hP', p, iNV_q h' g2⟩, bb.2⟩) (fun q => absurd (fRv_lo g.2.2.1 h.1).symm q))
  · refine z_ald1 k13000_1074 <| z_ald0 k13000_1075 <| z_ild4 k13000_1076 <| z_iconst (v := 1) k13000_1078 rfl <| z_iadd k13000_1079 <| z_arg k13000_1080 v1 <| z_ald0 k13000_1081 <| z_ild4 k13000_1082 <| z_iconst (v := 2) k13000_1084 rfl <| z_iadd k13000_1085 <| z_arg k13000_1086 v2 <| z_ald0 k13000_1087 <| z_ild4 k13000_1088 <| z_iconst (v := 3) k13000_1090 rfl <| z_iadd k13000_1091 <| z_arg k13000_1092 v3 <| z_ald0 k13000_1093 <| z_ild4 k13000_1094 <| z_iconst (v := 4) k13000_1096 rfl <| z_iadd k13000_1097 <| z_arg k13000_1098 v4 <| z_cV4 (MCz := 0) (MSz := 0) k13000_1099 v13_123_10 (hK.at rfl) (Nat.le_of_ble_eq_true rfl) (Nat.le_of_ble_eq_true rfl) u1 u2 <| s11024h hK hR h.1 ask ?_
    exact z_ald2 k13000_1102 <| z_ald0 k13000_1103 <| z_ild4 k13000_1104 <| z_iconst (v := 1) k13000_1106 rfl <| z_iadd k13000_1107 <| z_arg k13000_1108 v1 <| z_ald0 k13000_1109 <| z_ild4 k13000_1110 <| z_iconst (v := 2) k13000_1112 rfl <| z_iadd k13000_1113 <| z_arg k13000_1114 v2 <| z_ald0 k13000_1115 <| z_ild4 k13000_1116 <| z_iconst (v := 3) k13000_1118 rfl <| z_iadd k13000_1119 <| z_arg k13000_1120 v3 <| z_ald0 k13000_1121 <| z_ild4 k13000_1122 <| z_iconst (v := 4) k13000_1124 rfl <| z_iadd k13000_1125 <| z_arg k13000_1126 v4 <| z_cV4 (MCz := 0) (MSz := 0) k13000_1127 v13_126_11 (hK.at rfl) (Nat.le_of_ble_eq_true rfl) (Nat.le_of_ble_eq_true rfl) u1 u2 <| s12090 hK hR h.1 h.2.1 h.2.2.2.2.2.2.2.2 (fun J2 g2 => z_icmpeq (tgt := 1637) k13000_1130 (by decide) (fun _ => kt uc us K J2 L R sz ⟨⟨hK, hR, hP, p, iNV_q h g2⟩, b1, b2⟩) (fun q => absurd rfl q))
end L99x
