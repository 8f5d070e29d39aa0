/-! plans: the class's answers, a planner made at need -/
section L99da
variable {K : qK} {I J : Nat → Nat → Int32} {R : Nat → Nat → Option Nat} {sz : Nat} {p : qPa} {m : Nat} {x : Int32} {q : Nat}
def fewQ (p : qPa) : Prop := 1 ≤ pS p ∧ fewH p
theorem least_n {P : Nat → Prop} : ∀ n, P n → ∃ k, P k ∧ ∀ m, P m → k ≤ m := by
  intro n
  induction n using Nat.strongRecOn with
  | _ n ih =>
    intro hn
    by_cases h : ∃ k, k < n ∧ P k
    · obtain ⟨k, hk, hP⟩ := h
      exact ih k hk hP
    · exact ⟨n, hn, fun m hm => Nat.le_of_not_lt fun c => h ⟨m, c, hm⟩⟩
theorem pl_ex {g : qPg} (v : gV g) : ∃ w, plV g w := by
  by_cases h : noPl g
  · exact ⟨-1, Or.inl ⟨rfl, h⟩⟩
  · have h1 : ∃ T, ∃ d a r f k, rW g d a r f T k ∧ full g d := Classical.byContradiction fun c => h fun d a r f T k hr hf => c ⟨T, d, a, r, f, k, hr, hf⟩
    obtain ⟨T0, h1⟩ := h1
    obtain ⟨T, hT, hTl⟩ := least_n (P := fun T => ∃ d a r f k, rW g d a r f T k ∧ full g d) T0 h1
    obtain ⟨d0, a0, r0, f0, k0, h2, h3⟩ := hT
    obtain ⟨k, hk, hkl⟩ := least_n (P := fun k => ∃ d a r f, rW g d a r f T k ∧ full g d) k0 ⟨d0, a0, r0, f0, h2, h3⟩
    obtain ⟨d, a, r, f, h4, h5⟩ := hk
    have hT9 : T ≤ 243 := by
      obtain ⟨a', r', f', T', k', h6, h7, h8⟩ := r_soon v h4
      have := hTl T' ⟨d, a', r', f', k', h6, h5⟩
      omega
    refine ⟨nI T, Or.inr ⟨T, k, rfl, by omega, ⟨d, a, r, f, h4, h5⟩, fun d' a' r' f' T' k' hr hf => ?_⟩⟩
    have e1 := hTl T' ⟨d', a', r', f', k', hr, hf⟩
    by_cases e : T = T'
    · subst e
      exact Or.inr ⟨rfl, hkl k' ⟨d', a', r', f', hr, hf⟩⟩
    · exact Or.inl (by omega)
noncomputable def plW (g : qPg) : Int32 := by
  classical
  exact if h : ∃ w, plV g w then Classical.choose h else 0
theorem plW_is {g : qPg} {w : Int32} (h : plV g w) : w = plW g := by
  have he : ∃ w, plV g w := ⟨w, h⟩
  unfold plW
  rw [dif_pos he]
  exact plV_1 h (Classical.choose_spec he)
theorem plW_ok {g : qPg} (v : gV g) : plV g (plW g) := by
  obtain ⟨w, h⟩ := pl_ex v
  rw [← plW_is h]; exact h
/-- the answer of plan -/
def plQ (I : Nat → Nat → Int32) (p : qPa) (a b v : Int32) : Prop := (¬ fewQ p ∧ v = -1000000) ∨ (fewQ p ∧ ¬ (qIn (pM p) a ∧ ¬ b < 0 ∧ b ≤ 2) ∧ v = -1) ∨ (fewQ p ∧ (qIn (pM p) a ∧ ¬ b < 0 ∧ b ≤ 2) ∧ ((b = 0 ∧ plV (gQ I p a.toNatClampNeg (-1)) v) ∨ (b = 1 ∧ plK (gQ I p a.toNatClampNeg (-1)) v) ∨ (¬ b = 0 ∧ ¬ b = 1 ∧ plF (gQ I p a.toNatClampNeg (-1)) v)))
def stnQ (I : Nat → Nat → Int32) (p : qPa) (a b v : Int32) : Prop := (¬ fewQ p ∧ v = -1000000) ∨ (fewQ p ∧ ¬ (qIn (pM p) a ∧ qIn (pS p) b) ∧ v = -1) ∨ (fewQ p ∧ (qIn (pM p) a ∧ qIn (pS p) b) ∧ plV (gQ I p a.toNatClampNeg b) v)
/-- the most so far, and which -/
def ruG (vs : Nat → Int32) : Nat → Int32 × Int32
  | 0 => (-1, -1)
  | n + 1 => if (ruG vs n).1 < vs n then (vs n, nI n) else ruG vs n
def ruX (vs : Nat → Int32) : Nat → Nat → Int32
  | 0, s => (ruG vs s).2
  | k + 1, s => if vs s = -1 then nI s else ruX vs k (s + 1)
noncomputable def ruV (I : Nat → Nat → Int32) (p : qPa) (m s : Nat) : Int32 := plW (gQ I p m (nI s))
noncomputable def fRuin (I : Nat → Nat → Int32) (p : qPa) (a : Int32) : Int32 := by
  classical
  exact if ¬ fewQ p then -1000000 else if ¬ qIn (pM p) a then -1 else if plW (gQ I p a.toNatClampNeg (-1)) = -1 then -1 else ruX (ruV I p a.toNatClampNeg) (pS p) 0
theorem plQ_1 {a b v w : Int32} (h : plQ I p a b v) (h' : plQ I p a b w) : v = w := by
  rcases h with ⟨h1, h2⟩ | ⟨h1, h2, h3⟩ | ⟨h1, h2, h3⟩ <;> rcases h' with ⟨g1, g2⟩ | ⟨g1, g2, g3⟩ | ⟨g1, g2, g3⟩
  · rw [h2, g2]
  · exact absurd g1 h1
  · exact absurd g1 h1
  · exact absurd h1 g1
  · rw [h3, g3]
  · exact absurd g2 h2
  · exact absurd h1 g1
  · exact absurd h2 g2
  · rcases h3 with ⟨u, z⟩ | ⟨u, z⟩ | ⟨u, u', z⟩ <;> rcases g3 with ⟨y, z'⟩ | ⟨y, z'⟩ | ⟨y, y', z'⟩
    · exact plV_1 z z'
    · rw [u] at y; exact absurd y (by decide)
    · exact absurd u y
    · rw [u] at y; exact absurd y (by decide)
    · exact plK_1 z z'
    · exact absurd u y'
    · exact absurd y u
    · exact absurd y u'
    · exact plF_1 z z'
theorem stnQ_1 {a b v w : Int32} (h : stnQ I p a b v) (h' : stnQ I p a b w) : v = w := by
  rcases h with ⟨h1, h2⟩ | ⟨h1, h2, h3⟩ | ⟨h1, h2, h3⟩ <;> rcases h' with ⟨g1, g2⟩ | ⟨g1, g2, g3⟩ | ⟨g1, g2, g3⟩
  · rw [h2, g2]
  · exact absurd g1 h1
  · exact absurd g1 h1
  · exact absurd h1 g1
  · rw [h3, g3]
  · exact absurd g2 h2
  · exact absurd h1 g1
  · exact absurd h2 g2
  · exact plV_1 h3 g3
/-- memory after a call that may have made a planner, q -/
def qGp (K : qK) (I : Nat → Nat → Int32) (R : Nat → Nat → Option Nat) (sz : Nat) (K' : qK) (I' : Nat → Nat → Int32) (R' : Nat → Nat → Option Nat) (sz' q : Nat) : Prop := (sz ≤ sz' ∧ (sz' = sz ∨ (R 0 16 = none ∧ sz' ≤ sz + 4))) ∧ (∀ j, j < sz → K' j = K j) ∧ qLo I I' ∧ (∀ j, j ≠ 0 → j < sz → j ≠ q → R' j = R j) ∧ (∀ k, k ≠ 16 → R' 0 k = R 0 k) ∧ R' 0 16 = some q ∧ qPl K' R' sz' q
theorem qGp.nx {K' : qK} {I' I2 : Nat → Nat → Int32} {R' R2 : Nat → Nat → Option Nat} {sz' : Nat} (h : qGp K I R sz K' I' R' sz' q) (h1 : qLo I' I2) (h2 : ∀ j, j ≠ q → R2 j = R' j) (h3 : qPl K' R2 sz' q) : qGp K I R sz K' I2 R2 sz' q := by
  obtain ⟨g1, g2, g3, g4, g5, g6, g7⟩ := h
  have h107 : 107 ≤ q := g7.1
  have h0 : R2 0 = R' 0 := h2 0 (by omega)
  exact ⟨g1, g2, g3.trans h1, fun j a b c => by rw [h2 j c]; exact g4 j a b c, fun k hk => by rw [h0]; exact g5 k hk, by rw [h0]; exact g6, h3⟩
end L99da
section L99d
variable {d : Nat} {K : qK} {I : Nat → Nat → Int32} {L : Nat → Nat → Int64} {R : Nat → Nat → Option Nat} {sz : Nat} {Q : Option Value → qMem → Prop} {p : qPa} {q : Nat}
theorem u11048 (hK : qLay K sz) (hR : qRef R) (cI : CI I p) (ht : fewQ p → Q (some (.int 1)) (K, I, L, R, sz)) (hf : ¬ fewQ p → Q (some (.int 0)) (K, I, L, R, sz)) : X (d + 1) 0 0 11048 0 0 0 (qent (qml 11048) [.ref 0]) [] (K, I, L, R, sz) Q := by
  have w5 := cI.w5
  have w6 : pR p ≤ 6 := cI.1.2.1.1
  have lS := cI.lS
  have lR : I 22 0 = nI (pR p) := cI.1.1.1
  have h0 : I 22 1 ≤ 0 ↔ pS p = 0 := by
    rw [lS, show (0 : Int32) = nI 0 from rfl, nI_leI (by omega) (by omega)]; omega
  have h3 : 3 < I 22 1 ↔ 3 < pS p := by rw [lS, show (3 : Int32) = nI 3 from rfl, nI_ltI (by omega) (by omega)]
  have h5 : 5 < I 22 0 ↔ 5 < pR p := by rw [lR, show (5 : Int32) = nI 5 from rfl, nI_ltI (by omega) (by omega)]
  refine t11048 hK hR (fun a => hf (fun z => ?_)) (fun a b => hf (fun z => ?_)) (fun a b c => hf (fun z => ?_)) (fun a b c => ht ?_)
  · have := h0.mp a; have := z.1; omega
  · have := h3.mp b; have := z.2.1; omega
  · have := h5.mp c; have := z.2.2; omega
  · rw [h0] at a
    rw [h3] at b
    rw [h5] at c
    exact ⟨by omega, by omega, by omega⟩
/-- the planner asked, made at need -/
theorem c49 {y pc MC MS uc us : Nat} {ls : List (Option Value)} (hdg : decode (qc y) pc = .ok (.invokevirtual 234, 3)) (hv : qCv (y / 1000) 234 11049 10 0) (hK : qLay K sz) (hR : qRef R) (hb : (∃ q, R 0 16 = some q ∧ qPl K R sz q ∧ uc ≤ MC ∧ us ≤ MS) ∨ (R 0 16 = none ∧ sz < 900000 ∧ uc + 3 ≤ MC ∧ us + 80017 ≤ MS)) (k2 : ∀ K' I' R' sz' q uc' us', uc' ≤ MC → us' ≤ MS → qLay K' sz' → qRef R' → qGp K I R sz K' I' R' sz' q → X (d + 3) MC MS y uc' us' (pc + 3) ls [.ref q] (K', I', L, R', sz') Q) : X (d + 3) MC MS y uc us pc ls [.ref 0] (K, I, L, R, sz) Q := by
  have h107 := hK.1
  rcases hb with ⟨q, hq, hP, hc, hs⟩ | ⟨hn, hsz, hc, hs⟩
  · refine x_cV0 (MCz := 0) (MSz := 0) hdg hv (hK.at rfl) (Nat.le_of_ble_eq_true rfl) (Nat.le_of_ble_eq_true rfl) hc hs ?_
    have hq6 : qAt K sz q (.inl 6) := ⟨by have := hP.2.1; omega, hP.2.2.1⟩
    refine show X (d + 2) 0 0 11049 0 0 0 [some (.ref 0)] [] _ _ from x_ald0 k11049_0 <| x_getR k11049_1 f11_340_10 (hK.at rfl) rfl hq <| x_ifnonnull (tgt := 18) k11049_4 (by decide) <| x_ald0 k11049_18 <| x_getR k11049_19 f11_340_10 (hK.at rfl) rfl hq <| x_aret k11049_22 rfl (Nat.le_refl _) (Nat.le_refl _) ?_
    exact k2 K I R sz q _ _ hc hs hK hR ⟨⟨Nat.le_refl _, Or.inl rfl⟩, fun _ _ => rfl, qLo.refl, fun _ _ _ _ => rfl, fun _ _ => rfl, hq, hP⟩
  · refine x_cV0 (MCz := 3) (MSz := 80017) hdg hv (hK.at rfl) (Nat.le_of_ble_eq_true rfl) (Nat.le_of_ble_eq_true rfl) hc hs ?_
    refine show X (d + 2) 3 80017 11049 0 0 0 [some (.ref 0)] [] _ _ from x_ald0 k11049_0 <| x_getN k11049_1 f11_340_10 (hK.at rfl) rfl hn <| x_ifnonnullN k11049_4 <| x_ald0 k11049_7 <| x_new k11049_8 w11_239 (by decide) (by decide) (by omega) <| x_dup k11049_11 rfl <| x_cN0 (MCz := 2) (MSz := 80003) k11049_12 n11_344 rfl (Nat.le_of_ble_eq_true rfl) (Nat.le_of_ble_eq_true rfl) (by decide) (by decide) ?_
    have a0 : qAt (va_up K sz (.inl 6)) (sz + 1) sz (.inl 6) := qAt_s
    refine show X (d + 1) 2 80003 6000 0 0 0 [some (.ref sz)] [] _ _ from x_ald0 k6000_0 <| x_obj k6000_1 o6_3 qo_inst qo_code (Nat.le_of_ble_eq_true rfl) <| x_ald0 k6000_4 <| x_ldcI k6000_5 c6_11 <| x_newI (n := 80000) k6000_7 qa_int (by decide) (by decide) (by decide) (by decide) (by decide) (by omega) <| x_putR k6000_9 f6_12_6 (Or.inr ⟨rfl, rfl⟩) (qAt_n a0) rfl ⟨rfl, fun _ => ⟨rfl, rfl⟩⟩ <| x_ald0 k6000_12 <| x_iconst (v := 3) k6000_13 rfl <| x_newI (n := 3) k6000_14 qa_int (by decide) (by decide) (by decide) (by decide) (by decide) (by omega) <| x_putR k6000_16 f6_16_6 (Or.inr ⟨rfl, rfl⟩) (qAt_n (qAt_n a0)) rfl ⟨rfl, fun _ => ⟨rfl, rfl⟩⟩ <| x_vret k6000_19 rfl (by decide) (by decide) ?_
    have hK4 := qLay_n (k' := .inr (0, 3)) (qLay_n (k' := .inr (0, 80000)) (qLay_n (k' := .inl 6) hK))
    refine x_putR k11049_15 f11_340_10 (Or.inl rfl) (hK4.at rfl) rfl ⟨rfl, fun _ => ⟨rfl, rfl⟩⟩ ?_
    have k0 : qAt (va_up (va_up (va_up K sz (.inl 6)) (sz + 1) (.inr (0, 80000))) (sz + 1 + 1) (.inr (0, 3))) (sz + 1 + 1 + 1) sz (.inl 6) := qAt_n (qAt_n qAt_s)
    have k1 : qAt (va_up (va_up (va_up K sz (.inl 6)) (sz + 1) (.inr (0, 80000))) (sz + 1 + 1) (.inr (0, 3))) (sz + 1 + 1 + 1) (sz + 1) (.inr (0, 80000)) := qAt_n qAt_s
    have k2' : qAt (va_up (va_up (va_up K sz (.inl 6)) (sz + 1) (.inr (0, 80000))) (sz + 1 + 1) (.inr (0, 3))) (sz + 1 + 1 + 1) (sz + 1 + 1) (.inr (0, 3)) := qAt_s
    have hKo : ∀ j, j < sz → (va_up (va_up (va_up K sz (.inl 6)) (sz + 1) (.inr (0, 80000))) (sz + 1 + 1) (.inr (0, 3))) j = K j := fun j hj => by
      rw [vu_n (by omega), vu_n (by omega), vu_n (by omega)]
    have hlo : qLo I (va_up (va_up (va_up I sz (fun _ => 0)) (sz + 1) (fun _ => 0)) (sz + 1 + 1) (fun _ => 0)) := ((qLo.refl.up h107).up (by omega)).up (by omega)
    obtain ⟨R', hRd, r0, r16, rn, rs⟩ : ∃ R' : Nat → Nat → Option Nat, R' = va_up (va_up R sz (va_up (va_up (fun _ => none) 0 (some (sz + 1))) 1 (some (sz + 1 + 1)))) 0 (va_up (R 0) 16 (some sz)) ∧ (∀ k, k ≠ 16 → R' 0 k = R 0 k) ∧ R' 0 16 = some sz ∧ (∀ j, j ≠ 0 → j ≠ sz → R' j = R j) ∧ R' sz = va_up (va_up (fun _ => none) 0 (some (sz + 1))) 1 (some (sz + 1 + 1)) :=
      ⟨_, rfl, fun k hk => by rw [vu_s, vu_n hk], by rw [vu_s, vu_s], fun j h0 h1 => by rw [vu_n h0, vu_n h1], by rw [vu_n (by omega), vu_s]⟩
    have hRR : qRef R' := fun i k r z => by
      by_cases hi0 : i = 0
      · subst hi0
        have : k ≠ 16 := fun h => by subst h; cases z
        rw [r0 k this]; exact hR 0 k r z
      · have : i ≠ sz := fun h => by rw [h, qlr_hi h107] at z; cases z
        rw [rn i hi0 this]; exact hR i k r z
    generalize hKd : va_up (va_up (va_up K sz (.inl 6)) (sz + 1) (.inr (0, 80000))) (sz + 1 + 1) (.inr (0, 3)) = K' at hK4 k0 k1 k2' hKo
    generalize hId : va_up (va_up (va_up I sz (fun _ => 0)) (sz + 1) (fun _ => 0)) (sz + 1 + 1) (fun _ => 0) = I' at hlo
    have hcong : ∀ {Ra : Nat → Nat → Option Nat}, Ra = R' → X (d + 2) 3 80017 11049 3 80017 18 [some (.ref 0)] [] (K', I', L, R', sz + 1 + 1 + 1) (fun r M => X (d + 2 + 1) MC MS y (uc + 3) (us + 80017) (pc + 3) ls (qpush r []) M Q) → X (d + 2) 3 80017 11049 3 80017 18 [some (.ref 0)] [] (K', I', L, Ra, sz + 1 + 1 + 1) (fun r M => X (d + 2 + 1) MC MS y (uc + 3) (us + 80017) (pc + 3) ls (qpush r []) M Q) := fun h g => by subst h; exact g
    refine hcong ?_ ?_
    · rw [hRd]
      simp only [vu_t, vu_s]
      rw [vu_n (show 0 ≠ sz by omega)]
    · refine x_ald0 k11049_18 <| x_getR k11049_19 f11_340_10 (hK4.at rfl) rfl r16 <| x_aret k11049_22 rfl (Nat.le_refl _) (Nat.le_refl _) ?_
      exact k2 K' I' R' _ sz _ _ hc hs hK4 hRR ⟨⟨by omega, Or.inr ⟨hn, by omega⟩⟩, hKo, hlo, fun j h0 h1 h2 => rn j h0 h2, r0, r16, h107, by omega, k0.2, k1.2, k2'.2, by rw [rs]; rfl, by rw [rs]; rfl⟩

end L99d
