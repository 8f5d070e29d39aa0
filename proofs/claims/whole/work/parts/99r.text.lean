/-! text: both sides; what holds after it -/
/-- the places of law m -/
def kpM (m j k : Nat) : Prop := (j = 39 + 3 * m ∧ k ≠ 3) ∨ j = 39 + 3 * m + 1 ∨ (75 ≤ j ∧ j ≤ 76 ∧ 340 * m ≤ k ∧ k < 340 * m + 340) ∨ (77 ≤ j ∧ j ≤ 78 ∧ k = m) ∨ (79 ≤ j ∧ j ≤ 81 ∧ 90 * m ≤ k ∧ k < 90 * m + 90)
/-- what taking a law, or trying to, may change -/
def slT (m j k : Nat) : Prop := kpM m j k ∨ (j = 0 ∧ k = 5) ∨ (j = 73 ∧ (k = 13 ∨ k = 2)) ∨ (j = 1 ∧ k = 1)
section L99r
variable {d : Nat} {K : qK} {I J : Nat → Nat → Int32} {L : Nat → Nat → Int64} {R : Nat → Nat → Option Nat} {sz : Nat} {Q : Option Value → qMem → Prop} {p : qPa}
variable {b : Nat → Int32} {n : Nat} {H : Nat → Nat → Int32}
theorem qClR_m {m c : Nat} {x : qCls} (hf : ∀ j k, kpM m j k → J j k = I j k) (hc : c < 90) (h : qClR I m c x) : qClR J m c x := by
  obtain ⟨a, b, e1, e2, e3, e4, e5, e6⟩ := h
  obtain ⟨ts, sc, sv⟩ := x
  have hh : ∀ (q : Nat) (l : List Int32), q + l.length ≤ 340 → qHaz (I 75) (I 76) (340 * m + q) l → qHaz (J 75) (J 76) (340 * m + q) l := by
    intro q l hl hz j y hj
    have hlt := (List.getElem?_eq_some_iff.mp hj).1
    rw [hf 75 _ (by unfold kpM; omega), hf 76 _ (by unfold kpM; omega)]
    exact hz j y hj
  replace e4 : b + sc.length ≤ 340 := e4
  refine ⟨a, b, ?_, ?_, ?_, e4, hh _ _ e4 e5, ?_⟩
  · rw [hf 79 _ (by unfold kpM; omega)]; exact e1
  · rw [hf 80 _ (by unfold kpM; omega)]; exact e2
  · rw [hf 81 _ (by unfold kpM; omega)]; exact e3
  · cases ts with
    | none => exact e6
    | some t =>
      obtain ⟨tc, tv⟩ := t
      obtain ⟨e7, e8⟩ := (show b = a + tc.length ∧ qHaz (I 75) (I 76) (340 * m + a) tc from e6)
      exact ⟨e7, hh _ _ (by omega) e8⟩
theorem qLawR_m {m : Nat} {cs : List qCls} (hf : ∀ j k, kpM m j k → J j k = I j k) (h : qLawR I m cs) : qLawR J m cs := by
  obtain ⟨g1, g2, g3, g4⟩ := h
  refine ⟨?_, g2, ?_, g4⟩
  · rw [hf 78 _ (by unfold kpM; omega)]; exact g1
  · intro c x hx
    have := (List.getElem?_eq_some_iff.mp hx).1
    exact qClR_m hf (by omega) (g3 c x hx)
theorem qLawC_m {m : Nat} {cs : List qCls} (hf : ∀ j k, kpM m j k → J j k = I j k) (h : qLawC I (39 + 3 * m) cs) : qLawC J (39 + 3 * m) cs := by
  obtain ⟨g1, g2, g3, g4⟩ := h
  have e : J (39 + 3 * m + 1) = I (39 + 3 * m + 1) := funext fun k => hf _ _ (by unfold kpM; omega)
  refine ⟨?_, g2, by rw [e]; exact g3, g4⟩
  rw [hf _ _ (by unfold kpM; omega)]; exact g1
/-- the places of another law are kept -/
theorem slT_m {m j : Nat} (hf : qFr (slT m) I J) (hj : j < m) (hm : m < 4) : ∀ o k, kpM j o k → J o k = I o k := fun o k q => hf o k (fun w => by
  unfold kpM at q
  unfold slT kpM at w
  omega)
theorem CI_sl {m m' : Nat} (hf : qFr (slT m) I J) (l1 : I 0 5 = nI m) (g1 : J 0 5 = nI m') (hm : m ≤ m') (h4 : m' ≤ 4) (hx : m < 4) (c : CI I p) : CI J p := by
  obtain ⟨⟨⟨a1, a2, a3, a4⟩, ⟨b1, b2, b3, b4⟩, hc, hd, he⟩, c2, ⟨j, j1, j2, j3⟩, c4, c5, c6⟩ := c
  have h : ∀ j, (22 ≤ j ∧ j ≤ 38) ∨ (51 ≤ j ∧ j ≤ 55) → J j = I j := fun j hj => funext fun k => hf j k (fun w => by unfold slT kpM at w; omega)
  have h0 : ∀ k, ¬ k = 5 → J 0 k = I 0 k := fun k hk => hf 0 k (fun w => by unfold slT kpM at w; omega)
  have e22 : J 22 = I 22 := h 22 (by omega)
  have e51 : J 51 = I 51 := h 51 (by omega)
  have e52 : J 52 = I 52 := h 52 (by omega)
  have e53 : J 53 = I 53 := h 53 (by omega)
  have e54 : J 54 = I 54 := h 54 (by omega)
  have e55 : J 55 = I 55 := h 55 (by omega)
  have w5 : ∀ i, i < pN p → (I 53 i).toNatClampNeg < 5 := fun i hi => Nat.lt_of_lt_of_le (qIn_c (c2.2.2.1 i hi).2.1 b2) b2
  have hwj : ∀ j, pW p = some j → j < m := fun j e => by
    unfold qHw at c4
    rw [e] at c4
    obtain ⟨-, -, k, k1, k2, k3⟩ := c4
    have : k = m := nI_h (by omega) (by omega) (k3.symm.trans l1)
    omega
  refine ⟨⟨⟨by rw [e22]; exact a1, by rw [e22]; exact a2, by rw [e22]; exact a3, by rw [e22]; exact a4⟩, ⟨b1, b2, b3, b4⟩, ?_, ?_, ?_⟩, ?_, ⟨j, j1, by rw [e51]; exact j2, ?_⟩, ?_, ?_, by rw [h0 7 (by decide)]; exact c6⟩
  · intro s hs; rw [h (24 + s) (by omega)]; exact hc s hs
  · intro m hm; rw [h (30 + m) (by omega)]; exact hd m hm
  · intro t ht; rw [h (34 + t) (by omega)]; exact he t ht
  · unfold vTk; rw [e51, e52, e53, e54]; exact c2
  · intro i hi
    rw [e55, e52, e53, e54]
    have e : qBr J (I 53 i).toNatClampNeg = qBr I (I 53 i).toNatClampNeg := by
      have := w5 i (by omega)
      unfold qBr; rw [h _ (by omega)]
    rw [qCnt_br e]
    exact j3 i hi
  · unfold qHw at c4 ⊢
    cases hw : pW p with
    | none =>
      rw [hw] at c4
      show J 0 6 = -1
      rw [h0 6 (by decide)]; exact c4
    | some j =>
      have hj := hwj j hw
      rw [hw] at c4
      show J 0 6 = nI j ∧ j < 4 ∧ ∃ k, j < k ∧ k ≤ 4 ∧ J 0 5 = nI k
      rw [h0 6 (by decide)]
      exact ⟨c4.1, c4.2.1, m', by omega, h4, g1⟩
  · rcases c5 with q | ⟨j, cs, g1, g2, g3, g4⟩
    · exact Or.inl q
    · exact Or.inr ⟨j, cs, g1, g2, g3, qLawC_m (slT_m hf (hwj j g1) hx) g4⟩
theorem RI_sl {m m' : Nat} (hf : qFr (slT m) I J) (l1 : I 0 5 = nI m) (g1 : J 0 5 = nI m') (g2 : J 73 13 = nI m') (hx : m < 4) (c : CI I p) (r : RI I p) : RI J p := by
  obtain ⟨-, -, -, c4, -, -⟩ := c
  obtain ⟨⟨a1, a2, a3, a4⟩, ⟨b1, b2, b3⟩, ⟨c1, c2, c3, c5⟩, r4, ⟨e1, e2, e3, e4⟩, r6⟩ := r
  have hrow : ∀ j, ((22 ≤ j ∧ j ≤ 38) ∨ (51 ≤ j ∧ j ≤ 54) ∨ (85 ≤ j ∧ j ≤ 88)) → J j = I j := fun j h1 => funext fun k => hf j k (fun w => by unfold slT kpM at w; omega)
  have h0 : ∀ k, ¬ k = 5 → J 0 k = I 0 k := fun k hk => hf 0 k (fun w => by unfold slT kpM at w; omega)
  have h73 : ∀ k, 23 ≤ k → J 73 k = I 73 k := fun k hk => hf 73 k (fun w => by unfold slT kpM at w; omega)
  refine ⟨⟨by rw [h73 23 (by omega), hrow 22 (by omega)]; exact a1, by rw [h73 24 (by omega), hrow 22 (by omega)]; exact a2, by rw [h73 25 (by omega), hrow 22 (by omega)]; exact a3, by rw [h73 26 (by omega), hrow 22 (by omega)]; exact a4⟩, ⟨?_, ?_, ?_⟩, ⟨by rw [h73 33 (by omega), hrow 51 (by omega)]; exact c1, by rw [hrow 86 (by omega), hrow 52 (by omega)]; exact c2, by rw [hrow 87 (by omega), hrow 53 (by omega)]; exact c3, by rw [hrow 88 (by omega), hrow 54 (by omega)]; exact c5⟩, ?_, ⟨by rw [h73 28 (by omega), h0 7 (by decide)]; exact e1, by rw [h73 27 (by omega), h0 6 (by decide)]; exact e2, by rw [h73 29 (by omega), h0 8 (by decide)]; exact e3, by rw [g1, g2]⟩, by rw [h73 34 (by omega)]; exact r6⟩
  · intro s k hs hs2 hk; rw [hrow 85 (by omega), hrow (24 + s) (by omega)]; exact b1 s k hs hs2 hk
  · intro m hm hm2; rw [hrow 85 (by omega), hrow (30 + m) (by omega)]; exact b2 m hm hm2
  · intro t k ht ht2 hk; rw [hrow 85 (by omega), hrow (34 + t) (by omega)]; exact b3 t k ht ht2 hk
  · rcases r4 with ⟨q1, q2⟩ | ⟨z, cs, q1, q2, q3, q4⟩
    · exact Or.inl ⟨by rw [h73 27 (by omega)]; exact q1, q2⟩
    · have hz : z < m := by
        rw [e2] at q1
        unfold qHw at c4
        cases hw : pW p with
        | none =>
          rw [hw] at c4
          exact absurd (q1.symm.trans c4) (nI_m (by omega))
        | some j =>
          rw [hw] at c4
          obtain ⟨k0, k4, k, k1, k2, k3⟩ := c4
          have x1 : z = j := nI_h (by omega) (by omega) (q1.symm.trans k0)
          have x2 : k = m := nI_h (by omega) (by omega) (k3.symm.trans l1)
          omega
      exact Or.inr ⟨z, cs, by rw [h73 27 (by omega)]; exact q1, q2, q3, qLawR_m (slT_m hf hz hx) q4⟩
/-- a law is taken, or is not -/
theorem iNV_sl {m m' : Nat} (h : iNV I p) (hf : qFr (slT m) I J) (l1 : I 0 5 = nI m) (g1 : J 0 5 = nI m') (g2 : J 73 13 = nI m') (hm : m ≤ m') (h4 : m' ≤ 4) (hx : m < 4) (ht : iTp J) (hl : ∀ j, m ≤ j → j < m' → ∃ cs, qLawC J (39 + 3 * j) cs ∧ qLawR J j cs) : iNV J p := by
  obtain ⟨c, r, -, ⟨z, z1, z2, z3⟩, h3, h5, h6, h7, h8⟩ := h
  obtain rfl : z = m := nI_h (by omega) (by omega) (z2.symm.trans l1)
  refine ⟨CI_sl hf l1 g1 hm h4 hx c, RI_sl hf l1 g1 g2 hx c r, ht, ⟨m', h4, g1, fun j hj => ?_⟩, iSn_cr (fun j k q => hf j k (fun w => by unfold kpS at q; unfold slT kpM at w; omega)) h3, iIm_cr (fun j k q => hf j k (fun w => by unfold kpI at q; unfold slT kpM at w; omega)) h5, h6, ?_, ?_⟩
  · by_cases q : j < z
    · obtain ⟨cs, y1, y2⟩ := z3 j q
      exact ⟨cs, qLawC_m (slT_m hf q hx) y1, qLawR_m (slT_m hf q hx) y2⟩
    · exact hl j (by omega) hj
  · unfold iOn; rw [hf 0 8 (fun w => by unfold slT kpM at w; omega)]; exact h7
  · unfold iPw; rw [hf 99 0 (fun w => by unfold slT kpM at w; omega), hf 99 1 (fun w => by unfold slT kpM at w; omega), hf 99 2 (fun w => by unfold slT kpM at w; omega), hf 99 3 (fun w => by unfold slT kpM at w; omega), hf 99 4 (fun w => by unfold slT kpM at w; omega)]; exact h8
/-- what is read as a law is one -/
theorem rLW_is {m : Nat} {cs : List qUc} {xs : List qCls} (e : xs.map cuX = cs) (ok : ∀ x, x ∈ xs → qClsOk x) (h : rLW m I cs) : qLawR I m xs := by
  obtain ⟨h1, h2, h3⟩ := h
  have hl : cs.length = xs.length := by rw [← e, List.length_map]
  refine ⟨by rw [← hl]; exact h1, by omega, fun c x hx => ?_, ok⟩
  have hc : cs[c]? = some (cuX x) := by rw [← e, List.getElem?_map, hx]; rfl
  obtain ⟨p, q, a1, a2, a3, a4, a5, a6⟩ := h3 c _ hc
  refine ⟨p, q, a1, a2, a3, a4, a5, ?_⟩
  obtain ⟨t, s⟩ := x
  cases t with
  | none => exact a6
  | some t => exact a6
theorem rLW_fr {m : Nat} {cs : List qUc} (hf : ∀ o, 75 ≤ o → o ≤ 81 → J o = I o) (h : rLW m I cs) : rLW m J cs := by
  unfold rLW rClU at h ⊢
  rw [hf 75 (by omega) (by omega), hf 76 (by omega) (by omega), hf 78 (by omega) (by omega), hf 79 (by omega) (by omega), hf 80 (by omega) (by omega), hf 81 (by omega) (by omega)]
  exact h
/-- the class's text -/
theorem s11004 {a : Int32} {m : Nat} (hK : qLay K sz) (hR : qRef R) (ht : iTp I) (hl : I 0 5 = nI m) (h4 : m ≤ 4) (hno : (¬ a = 0 ∧ ¬ a = 1) ∨ (a = 1 ∧ m = 4) → Q (some (.int (-1))) (K, I, L, R, sz)) (hh1 : a = 0 → ∀ J k v h, gHouse (fB I) (fN I) = (k, some (v, h)) → txC I v h J → Q (some (.int (nI h.1.1))) (K, J, L, R, sz)) (hh0 : a = 0 → ∀ J k, gHouse (fB I) (fN I) = (k, none) → qFr hFz I J → Q (some (.int (-1))) (K, J, L, R, sz)) (hl1 : a = 1 → m < 4 → ∀ J k cs, gLaw (fB I) (fN I) = (k, some cs) → txL I m cs J → Q (some (.int (nI m))) (K, J, L, R, sz)) (hl0 : a = 1 → m < 4 → ∀ J k, gLaw (fB I) (fN I) = (k, none) → qFr xFl I J → Q (some (.int (-1))) (K, J, L, R, sz)) : X (d + 48) 0 0 11004 0 0 0 (qent (qml 11004) [.ref 0, .int a]) [] (K, I, L, R, sz) Q := by
  have lt : ¬ 4 ≤ I 0 5 → m < 4 := fun q => by rw [hl, show (4 : Int32) = nI 4 from rfl, nI_leI (by omega) (by omega)] at q; omega
  have e4 : ∀ {I4 : Nat → Nat → Int32}, xL1 I I4 → I4 0 5 = nI m ∧ ∃ z, z ≤ 161 ∧ I4 20 3 = nI z := fun g => by
    obtain ⟨k, cs, -, f, q1, q2, -⟩ := g
    exact ⟨(f 0 5 (fun w => by unfold xFl at w; omega)).trans hl, _, q2, q1⟩
  refine e11004 hK hR (fun _ _ _ => ht) (fun _ _ q I4 g => by rw [(e4 g).1]; exact vI (lt q) (by omega)) (fun _ _ q I4 g => by rw [(e4 g).1, nI_c (by omega)]; exact lt q) (fun _ _ q I4 g => (e4 g).2) (fun _ => ht) (fun h1 h2 => hno (Or.inl ⟨h1, h2⟩)) (fun h1 h2 q => hno (Or.inr ⟨h2, ?_⟩)) (fun h1 h2 q I4 g I6 g6 I8 e8 I10 e10 => ?_) (fun h1 h2 q I12 g => ?_) (fun h1 I14 g I16 gb I18 gt I20 gs I22 e22 I24 e24 => ?_) (fun h1 I26 g => ?_)
  · rw [hl, show (4 : Int32) = nI 4 from rfl, nI_leI (by omega) (by omega)] at q; omega
  · have hm := lt q
    have e5 := (e4 g).1
    obtain ⟨k, cs, e, f4, q1, q2, q3⟩ := g
    rw [e5, nI_c (by omega)] at g6
    obtain ⟨z, z1, z2, f6, z3, z4⟩ := g6
    obtain rfl : (cuCs cs).length = z := nI_h (by omega) (by omega) (q1.symm.trans z1)
    have f8 : qFr (fun j k => j = 1 ∧ k = 1) I6 I8 := by rw [e8]; exact qFr.up1 ⟨rfl, rfl⟩
    have f10 : qFr (fun j k => j = 0 ∧ k = 5) I8 I10 := by rw [e10]; exact qFr.up1 ⟨rfl, rfl⟩
    have w8 : I8 0 5 = nI m := by rw [f8 0 5 (by omega), f6 0 5 (by omega)]; exact e5
    have w10 : I10 0 5 = nI (m + 1) := by rw [e10, up_at, w8, nI_1]
    rw [w10, show nI (m + 1) - 1 = nI m by rw [show (1 : Int32) = nI 1 from rfl, pk_sub (by omega)]; rfl]
    refine hl1 h2 hm I10 k cs e ⟨fun j k w => ?_, ?_, q2, fun j x hx => ?_, w10, ?_⟩
    · rw [f10 j k (by omega), f8 j k (by omega), f6 j k (by omega), f4 j k (fun q => w (Or.inl q))]
    · rw [f10 _ _ (by omega), f8 _ _ (by omega)]; exact z3
    · have hj := (List.getElem?_eq_some_iff.mp hx).1
      rw [f10 _ _ (by omega), f8 _ _ (by omega), Nat.zero_add, z4 j hj]
      have := q3 j x hx
      rw [Nat.zero_add] at this; exact this
    · rw [f10 1 1 (by omega), e8]; exact up_at
  · obtain ⟨k, e, f, -⟩ := g
    exact hl0 h2 (lt q) I12 k e f
  · obtain ⟨k, v, x, e, f14, v4, E⟩ := g
    obtain ⟨f16, c22, cs, cm, ct⟩ := gb
    obtain ⟨f18, z5, z6⟩ := gt
    obtain ⟨f20, zs⟩ := gs
    have f22 : qFr (fun j k => j = 0 ∧ k = 13) I20 I22 := by rw [e22]; exact qFr.up1 ⟨rfl, rfl⟩
    have f24 : qFr (fun j k => j = 1 ∧ k = 1) I22 I24 := by rw [e24]; exact qFr.up1 ⟨rfl, rfl⟩
    have ch : ∀ j k, ¬ ((j = 51 ∧ (k = 5 ∨ k = 6)) ∨ j = 58 ∨ (j = 0 ∧ k = 13) ∨ (j = 1 ∧ k = 1)) → I24 j k = I16 j k := fun j k w => by
      rw [f24 j k (by omega), f22 j k (by omega), f20 j k (by omega), f18 j k (by omega)]
    have w22 : ∀ j, j < 3 → I24 22 (1 + j) = nI (hCn x j) := fun j hj => by rw [ch _ _ (by omega), c22 (1 + j) (by omega)]; exact E.1 j hj
    rw [show I24 22 1 = nI x.1.1 from w22 0 (by decide)]
    refine hh1 h1 I24 k v x e ⟨fun j k w => ?_, ⟨by rw [ch _ _ (by omega), c22 0 (by decide)]; exact v4, w22⟩, ⟨fun s hs c hc => ?_, fun m hm => ?_, fun t ht c hc => ?_⟩, ?_, ?_, fun s hs => ?_, ?_, ?_⟩
    · unfold txPc at w
      rw [ch j k (by omega), f16 j k (by omega), f14 j k (by omega)]
    · rw [ch _ _ (by omega), cs s hs c hc]; exact E.2 0 (by decide) s hs c hc
    · rw [ch _ _ (by omega), cm m hm]; exact E.2 1 (by decide) m hm 0 (by decide)
    · rw [ch _ _ (by omega), ct t ht c hc]; exact E.2 2 (by decide) t ht c hc
    · rw [f24 _ _ (by omega), f22 _ _ (by omega), f20 _ _ (by omega)]; exact z5
    · rw [f24 _ _ (by omega), f22 _ _ (by omega), f20 _ _ (by omega)]; exact z6
    · rw [f24 _ _ (by omega), f22 _ _ (by omega)]; exact zs s hs
    · rw [f24 _ _ (by omega), e22]; exact up_at
    · rw [e24]; exact up_at
  · obtain ⟨k, e, f, -⟩ := g
    exact hh0 h1 I26 k e f
/-- the reference's text -/
theorem s12045 {a : Int32} {m : Nat} (hK : qLay K sz) (hR : qRef R) (T : rTp b n I) (hl : I 73 13 = nI m) (h4 : m ≤ 4) (hno : (¬ a = 0 ∧ ¬ a = 1) ∨ (a = 1 ∧ m = 4) → Q (some (.int (-1))) (K, I, L, R, sz)) (hh1 : a = 0 → ∀ J k v h, gHouse b n = (k, some (v, h)) → txR I v h J → Q (some (.int (nI h.1.1))) (K, J, L, R, sz)) (hh0 : a = 0 → ∀ J k, gHouse b n = (k, none) → qFr yFz I J → Q (some (.int (-1))) (K, J, L, R, sz)) (hl1 : a = 1 → m < 4 → ∀ J k cs, gLaw b n = (k, some cs) → txM I m cs J → Q (some (.int (nI m))) (K, J, L, R, sz)) (hl0 : a = 1 → m < 4 → ∀ J k, gLaw b n = (k, none) → qFr (rFrD m) I J → Q (some (.int (-1))) (K, J, L, R, sz)) : X (d + 48) 0 0 12045 0 0 0 (qent (qml 12045) [.ref 73, .int a]) [] (K, I, L, R, sz) Q := by
  have lt : ¬ 4 ≤ I 73 13 → m < 4 := fun q => by rw [hl, show (4 : Int32) = nI 4 from rfl, nI_leI (by omega) (by omega)] at q; omega
  refine e12045 (b := b) (n := n) hK hR (fun _ _ q => ⟨T, m, by have := lt q; omega, hl⟩) (fun _ => T) (fun h1 h2 => hno (Or.inl ⟨h1, h2⟩)) (fun h1 h2 q => hno (Or.inr ⟨h2, ?_⟩)) (fun h1 h2 q I4 g I6 e6 I8 e8 => ?_) (fun h1 h2 q I10 x g _ => ?_) (fun h1 I14 g I16 e16 I18 gb => ?_) (fun h1 I20 x g _ => ?_)
  · rw [hl, show (4 : Int32) = nI 4 from rfl, nI_leI (by omega) (by omega)] at q; omega
  · have hm := lt q
    obtain ⟨t, k, cs, et, t5, e, f4, w⟩ := g
    obtain rfl : t = m := nI_h (by omega) (by omega) (et.symm.trans hl)
    have f6 : qFr (fun j k => j = 73 ∧ k = 2) I4 I6 := by rw [e6]; exact qFr.up1 ⟨rfl, rfl⟩
    have f8 : qFr (fun j k => j = 73 ∧ k = 13) I6 I8 := by rw [e8]; exact qFr.up1 ⟨rfl, rfl⟩
    have w6 : I6 73 13 = nI t := by rw [f6 73 13 (by omega), f4 73 13 (fun w => by unfold rFrD rFrC rFr at w; omega)]; exact hl
    have w8 : I8 73 13 = nI (t + 1) := by rw [e8, up_at, w6, nI_1]
    rw [w8, show nI (t + 1) - 1 = nI t by rw [show (1 : Int32) = nI 1 from rfl, pk_sub (by omega)]; rfl]
    refine hl1 h2 hm I8 k cs e ⟨fun j k w => ?_, rLW_fr (fun o h1 h2 => funext fun z => ?_) w, w8, ?_⟩
    · rw [f8 j k (by omega), f6 j k (by omega), f4 j k (fun q => w (Or.inl q))]
    · rw [f8 _ _ (by omega), f6 _ _ (by omega)]
    · rw [f8 73 2 (by omega), e6]; exact up_at
  · obtain ⟨t, k, et, t5, e, f⟩ := g
    obtain rfl : t = m := nI_h (by omega) (by omega) (et.symm.trans hl)
    exact hl0 h2 (lt q) I10 k e f
  · obtain ⟨k, v, x, e, f14, v19, E⟩ := g
    obtain ⟨f18, c23, c85, c33, c60, c100⟩ := gb
    have f16 : qFr (fun j k => j = 73 ∧ k = 2) I14 I16 := by rw [e16]; exact qFr.up1 ⟨rfl, rfl⟩
    have w24 : ∀ j, j < 3 → I18 73 (24 + j) = nI (hCn x j) := fun j hj => by
      have := c23 (1 + j) (by omega)
      rw [show 23 + (1 + j) = 24 + j by omega, show 19 + (1 + j) = 20 + j by omega] at this
      rw [this, f16 _ _ (by omega)]; exact E.1 j hj
    rw [show I18 73 24 = nI x.1.1 from w24 0 (by decide)]
    refine hh1 h1 I18 k v x e ⟨fun j k w => ?_, ⟨?_, w24⟩, fun j hj s hs c hc => ?_, c33, c60, c100, ?_⟩
    · unfold txPr at w
      rw [f18 j k (by omega), f16 j k (by omega), f14 j k (by omega)]
    · rw [c23 0 (by decide), f16 _ _ (by omega)]; exact v19
    · have hi := (gHouse_ok e).2.2.2.1
      have := hInv_m hi hj
      rw [c85 _ (yPc_lt hj (by omega) hc), f16 _ _ (by omega)]; exact E.2 j hj s hs c hc
    · rw [f18 73 2 (by omega), e16]; exact up_at
  · obtain ⟨k, e, f⟩ := g
    exact hh0 h1 I20 k e f
end L99r
