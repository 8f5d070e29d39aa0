/-! what holds after a text -/
section L99s
variable {d : Nat} {K : qK} {I J : Nat → Nat → Int32} {L : Nat → Nat → Int64} {R : Nat → Nat → Option Nat} {sz : Nat} {Q : Option Value → qMem → Prop} {p : qPa}
variable {H : Nat → Nat → Int32}
theorem iNV_2 {P1 P2 : Nat → Nat → Prop} (h : iNV I p) (f : qFr P1 I J) (f2 : qFr P2 J H) (h1 : ∀ j k, P1 j k → scQ j k ∧ ¬ (j = 51 ∧ k = 6) ∧ ¬ j = 55) (h2 : ∀ j k, P2 j k → scQ j k ∧ ¬ (j = 51 ∧ k = 6) ∧ ¬ j = 55) : iNV H p := by
  have h' := iNV_q h (qAf_of h.1 f h1)
  exact iNV_q h' (qAf_of h'.1 f2 h2)
/-- no house was read -/
theorem iNV_hsN (h : iNV I p) (f : qFr hFz I J) (f2 : qFr yFz J H) : iNV H p := iNV_2 h f f2 hFz_q yFz_q
/-- where reading a law writes, beside the law -/
abbrev lwP (j k : Nat) : Prop := j = 20 ∨ j = 21 ∨ (j = 73 ∧ (k = 3 ∨ k = 4 ∨ k = 5 ∨ k = 14))
theorem lwP_q : ∀ j k, lwP j k → scQ j k ∧ ¬ (j = 51 ∧ k = 6) ∧ ¬ j = 55 := fun j k q => by
  refine ⟨fun w => ?_, by omega, by omega⟩
  unfold kpQ at w; omega
/-- what was written beside the law -/
noncomputable def slM (m : Nat) (I H : Nat → Nat → Int32) : Nat → Nat → Int32 := fun j k => haveI := Classical.propDecidable (slT m j k); if slT m j k then I j k else H j k
theorem slM_p {m j k : Nat} (h : slT m j k) : slM m I H j k = I j k := by unfold slM; exact if_pos h
theorem slM_n {m j k : Nat} (h : ¬ slT m j k) : slM m I H j k = H j k := by unfold slM; exact if_neg h
theorem slM_1 {m : Nat} (h : iNV I p) (hf : qFr (fun j k => slT m j k ∨ lwP j k) I H) : iNV (slM m I H) p ∧ qFr (slT m) (slM m I H) H := by
  have f1 : qFr lwP I (slM m I H) := fun j k q => by
    by_cases w : slT m j k
    · exact slM_p w
    · rw [slM_n w]; exact hf j k (fun v => v.elim w q)
  exact ⟨iNV_q h (qAf_of h.1 f1 lwP_q), fun j k q => (slM_n q).symm⟩
/-- a law is taken -/
theorem iNV_lwY {m k : Nat} {cs : List qUc} (h : iNV I p) (l1 : I 0 5 = nI m) (hm : m < 4) (e : gLaw (fB I) (fN I) = (k, some cs)) (g : txL I m cs J) (g2 : txM J m cs H) : iNV H p := by
  obtain ⟨f, t1, t2, t3, t4, t5⟩ := g
  obtain ⟨f2, u1, u2, u3⟩ := g2
  have hF : qFr (fun j k => slT m j k ∨ lwP j k) I H := fun j k w => by
    have w1 : ¬ slT m j k := fun q => w (Or.inl q)
    have w2 : ¬ lwP j k := fun q => w (Or.inr q)
    unfold slT kpM at w1
    rw [f2 j k (fun q => by unfold rFrD rFrC rFr at q; omega), f j k (fun q => by unfold xFl at q; omega)]
  obtain ⟨hM, hS⟩ := slM_1 h hF
  have g05 : H 0 5 = nI (m + 1) := by rw [f2 0 5 (fun q => by unfold rFrD rFrC rFr at q; omega)]; exact t4
  refine iNV_sl (m := m) (m' := m + 1) hM hS (by rw [slM_p (by unfold slT; omega)]; exact l1) g05 u2 (by omega) (by omega) hm ⟨0, by omega, ?_, u3, fun k hk => by omega⟩ (fun j h1 h2 => ?_)
  · rw [f2 1 1 (fun q => by unfold rFrD rFrC rFr at q; omega)]; exact t5
  · obtain rfl : j = m := by omega
    obtain ⟨xs, x1, x2⟩ := gLaw_su e
    have hC : qCode xs = cuCs cs := by rw [qCode_cu, x1]
    refine ⟨xs, ⟨?_, by rw [hC]; exact t2, ?_, x2⟩, rLW_is x1 x2 u1⟩
    · rw [hC, f2 _ _ (fun q => by unfold rFrD rFrC rFr at q; omega)]; exact t1
    · rw [hC]
      intro i x hx
      rw [f2 _ _ (fun q => by unfold rFrD rFrC rFr at q; omega)]
      exact t3 i x hx
/-- no law was read -/
theorem iNV_lwN {m : Nat} (h : iNV I p) (l1 : I 0 5 = nI m) (hm : m < 4) (f : qFr xFl I J) (f2 : qFr (rFrD m) J H) : iNV H p := by
  have hF : qFr (fun j k => slT m j k ∨ lwP j k) I H := fun j k w => by
    have w1 : ¬ slT m j k := fun q => w (Or.inl q)
    have w2 : ¬ lwP j k := fun q => w (Or.inr q)
    unfold slT kpM at w1
    rw [f2 j k (fun q => by unfold rFrD rFrC rFr at q; omega), f j k (fun q => by unfold xFl at q; omega)]
  obtain ⟨hM, hS⟩ := slM_1 h hF
  have k0 : ∀ j k, (j = 0 ∨ j = 1 ∨ j = 2 ∨ j = 74 ∨ (j = 73 ∧ (k = 2 ∨ k = 13))) → H j k = I j k := fun j k q => by
    rw [f2 j k (fun q => by unfold rFrD rFrC rFr at q; omega), f j k (fun q => by unfold xFl at q; omega)]
  refine iNV_sl (m := m) (m' := m) hM hS (by rw [slM_p (by unfold slT; omega)]; exact l1) (by rw [k0 0 5 (by omega)]; exact l1) (by rw [k0 73 13 (by omega), h.2.1.2.2.2.2.1.2.2.2]; exact l1) (by omega) (by omega) hm (iTp_cr (fun j k q => k0 j k (by unfold kpT at q; omega)) h.2.2.1) (fun j h1 h2 => by omega)
/-- a house is taken -/
theorem iNV_hsY {k : Nat} {v : Int32} {x : qHs} (h : iNV I p) (e : gHouse (fB I) (fN I) = (k, some (v, x))) (g : txC I v x J) (g2 : txR J v x H) : iNV H (v.toNatClampNeg, x.1.1, x.1.2.1, x.1.2.2, 0, pW p, pH p) := by
  obtain ⟨v1, v2, v3, iv, wh⟩ := gHouse_ok e
  obtain ⟨f, ⟨c0, cn⟩, ⟨cs, cm, ct⟩, z5, z6, zs, z13, z11⟩ := g
  obtain ⟨f2, ⟨r0, rn⟩, rr, y33, y60, y100, y2⟩ := g2
  obtain ⟨c, r, h1, h2, h3, h4, h5, h6, h7⟩ := h
  have n2 : ∀ j k, ¬ txPr j k → H j k = J j k := f2
  have n0 : ∀ j k, ¬ txPc j k → ¬ txPr j k → H j k = I j k := fun j k a b => (f2 j k b).trans (f j k a)
  have s22 : ∀ k, H 22 k = J 22 k := fun k => n2 _ _ (by unfold txPr; omega)
  have sro : ∀ j k, 24 ≤ j → j < 59 → H j k = J j k := fun j k a b => n2 _ _ (by unfold txPr; omega)
  have b1 : x.1.1 ≤ 5 := iv.1.1
  have b2 : x.1.2.1 ≤ 3 := iv.1.2.1
  have b3 : x.1.2.2 ≤ 4 := iv.1.2.2
  have k0 : ∀ k, ¬ k = 13 → H 0 k = I 0 k := fun k hk => n0 _ _ (by unfold txPc; omega) (by unfold txPr; omega)
  have kL : ∀ j k, kpL j k → H j k = I j k := fun j k q => n0 _ _ (by unfold kpL at q; unfold txPc; omega) (by unfold kpL at q; unfold txPr; omega)
  have h22 : ∀ j, j < 3 → H 22 (1 + j) = nI (hCn x j) := fun j hj => by rw [s22]; exact cn j hj
  have t24 : ∀ j, j < 3 → H 73 (24 + j) = H 22 (1 + j) := fun j hj => by rw [h22 j hj]; exact rn j hj
  obtain ⟨-, -, -, c4, c5, c6⟩ := c
  obtain ⟨-, -, ⟨d1, d2, d3, d4⟩, r4, ⟨e1, e2, e3, e4⟩, r6⟩ := r
  have k73 : ∀ k, (27 ≤ k ∧ k ≤ 29) ∨ k = 13 ∨ k = 34 → H 73 k = I 73 k := fun k hk => n0 _ _ (by unfold txPc; omega) (by unfold txPr; omega)
  have s52 : ∀ j, (52 ≤ j ∧ j ≤ 54) ∨ (86 ≤ j ∧ j ≤ 88) → H j = I j := fun j hj => funext fun k => n0 _ _ (by unfold txPc; omega) (by unfold txPr; omega)
  have e51 : H 51 5 = 0 := by rw [sro _ _ (by omega) (by omega)]; exact z5
  refine ⟨⟨⟨⟨?_, h22 0 (by decide), h22 1 (by decide), h22 2 (by decide)⟩, ⟨v3, b1, b2, b3⟩, fun s hs => ?_, fun m hm => ?_, fun t ht => ?_⟩, ⟨e51, Nat.zero_le _, fun i hi => absurd hi (Nat.not_lt_zero i), fun i j _ hj => absurd hj (Nat.not_lt_zero j)⟩, ⟨0, Nat.le_refl _, by rw [sro _ _ (by omega) (by omega)]; exact z6, fun i hi => absurd hi (Nat.not_lt_zero i)⟩, ?_, ?_, ?_⟩, ⟨⟨?_, t24 0 (by decide), t24 1 (by decide), t24 2 (by decide)⟩, ⟨fun s c hs hs2 hc => ?_, fun m hm hm2 => ?_, fun t c ht ht2 hc => ?_⟩, ⟨?_, ?_, ?_, ?_⟩, ?_, ⟨?_, ?_, ?_, ?_⟩, ?_⟩, ⟨0, Nat.zero_le _, ?_, y2, fun k hk => absurd hk (Nat.not_lt_zero k)⟩, iLw_cr (k0 5 (by decide)) kL h2, fun s hs => ?_, ⟨?_, Or.inl ?_, fun q => ?_⟩, Or.inr ⟨v2, wh.1, wh.2.1⟩, ?_, ?_⟩
  · rw [s22, c0]; exact v1
  · have hs : s < x.1.1 := hs
    obtain ⟨o1, o2, o3⟩ := (show qIn v.toNatClampNeg (x.2.1 s 0) ∧ (x.2.1 s 1 = -1 ∨ qIn 3 (x.2.1 s 1)) ∧ qIn 10 (x.2.1 s 2) from iv.2.1.1 s hs)
    have g : ∀ c, c < 3 → H (24 + s) c = x.2.1 s c := fun c hc => by rw [sro _ _ (by omega) (by omega)]; exact cs s (by omega) c hc
    rw [g 0 (by decide), g 1 (by decide), g 2 (by decide)]
    refine ⟨o1, o2.elim Or.inl (fun q => Or.inr ?_), o3⟩
    obtain ⟨u, hu, eu⟩ := q
    have := wh.2.2 s hs
    rw [eu, nI_leI (by omega) (by omega)] at this
    exact ⟨u, by show u < x.1.2.1; omega, eu⟩
  · have hm : m < x.1.2.1 := hm
    have o1 : qIn v.toNatClampNeg (x.2.2.1 m 0) := iv.2.1.2.1 m hm
    rw [sro _ _ (by omega) (by omega), cm m (by omega)]; exact o1
  · have ht : t < x.1.2.2 := ht
    have o1 := (show qIn v.toNatClampNeg (x.2.2.2 t 0) ∧ (qIn 4 (x.2.2.2 t 1) ∧ ¬ x.2.2.2 t 1 = 0) ∧ (qIn 31 (x.2.2.2 t 2) ∧ ¬ x.2.2.2 t 2 = 0) ∧ (x.2.2.2 t 3 = -1 ∨ qIn t (x.2.2.2 t 3)) from iv.2.1.2.2 t ht)
    have g : ∀ c, c < 4 → H (34 + t) c = x.2.2.2 t c := fun c hc => by rw [sro _ _ (by omega) (by omega)]; exact ct t (by omega) c hc
    rw [g 0 (by decide), g 1 (by decide), g 2 (by decide), g 3 (by decide)]; exact o1
  · unfold qHw at c4 ⊢
    show match pW p with | none => H 0 6 = -1 | some j => H 0 6 = nI j ∧ j < 4 ∧ ∃ k, j < k ∧ k ≤ 4 ∧ H 0 5 = nI k
    rw [k0 6 (by decide), k0 5 (by decide)]; exact c4
  · rcases c5 with q | ⟨j, ls, g1, g2, g3, g4⟩
    · exact Or.inl q
    · exact Or.inr ⟨j, ls, g1, g2, g3, qLawC_tr kL g3 g4⟩
  · rw [k0 7 (by decide)]; exact c6
  · rw [r0, s22, c0]
  · have hs2 : s < x.1.1 := hs2
    rw [sro (24 + s) c (by omega) (by omega), cs s hs c hc]; exact rr 0 (by decide) s hs2 c hc
  · have hm2 : m < x.1.2.1 := hm2
    rw [sro (30 + m) 0 (by omega) (by omega), cm m hm]; exact rr 1 (by decide) m hm2 0 (by decide)
  · have ht2 : t < x.1.2.2 := ht2
    rw [sro (34 + t) c (by omega) (by omega), ct t ht c hc]; exact rr 2 (by decide) t ht2 c hc
  · rw [y33, e51]
  · rw [s52 86 (by omega), s52 52 (by omega)]; exact d2
  · rw [s52 87 (by omega), s52 53 (by omega)]; exact d3
  · rw [s52 88 (by omega), s52 54 (by omega)]; exact d4
  · rcases r4 with ⟨q1, q2⟩ | ⟨z, ls, q1, q2, q3, q4⟩
    · exact Or.inl ⟨by rw [k73 27 (by omega)]; exact q1, q2⟩
    · exact Or.inr ⟨z, ls, by rw [k73 27 (by omega)]; exact q1, q2, q3, qLawR_tr kL q3 q4⟩
  · rw [k73 28 (by omega), k0 7 (by decide)]; exact e1
  · rw [k73 27 (by omega), k0 6 (by decide)]; exact e2
  · rw [k73 29 (by omega), k0 8 (by decide)]; exact e3
  · rw [k73 13 (by omega), k0 5 (by decide)]; exact e4
  · rw [k73 34 (by omega)]; exact r6
  · rw [n2 1 1 (by unfold txPr; omega)]; exact z11
  · rw [sro 58 s (by omega) (by omega), zs s hs]
    exact ⟨y100 s hs, Or.inl rfl⟩
  · rw [y60, n2 0 13 (by unfold txPr; omega)]; exact z13.symm
  · rw [n2 0 13 (by unfold txPr; omega)]; exact z13
  · rw [n2 0 13 (by unfold txPr; omega), z13] at q
    exact absurd q (by decide)
  · unfold iOn; rw [k0 8 (by decide)]; exact h6
  · unfold iPw
    have : H 99 = I 99 := funext fun k => n0 _ _ (by unfold txPc; omega) (by unfold txPr; omega)
    rw [this]; exact h7
end L99s
