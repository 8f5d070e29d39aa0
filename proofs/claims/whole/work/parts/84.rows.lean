/-! rows: the reference's, both -/
theorem lcmp0 {r : Nat} (h : r < 2 ^ 63) : lg_cmp (lN r) 0 ≤ 0 ↔ r = 0 := by
  unfold lg_cmp
  have e0 : (0 : Int64) = lN 0 := rfl
  have hlt : lN r > 0 ↔ 0 < r := by rw [e0]; exact pk_lLT (by omega) h
  have heq : lN r = 0 ↔ r = 0 := by rw [e0]; exact pk_lEQ h (by omega)
  by_cases h0 : r = 0
  · rw [if_neg (fun q => by have := hlt.mp q; omega), if_pos (heq.mpr h0)]
    exact ⟨fun _ => h0, fun _ => by decide⟩
  · rw [if_pos (hlt.mpr (by omega))]
    exact ⟨fun q => absurd q (by decide), fun q => absurd q h0⟩
theorem sm_sc {S h : Nat → Nat} {u v n : Nat} (hu : u < n) : sm (fun j => (if j = u then S u + v else S j) * h j) n = sm (fun j => S j * h j) n + v * h u := by
  have e : sm (fun j => (if j = u then S u + v else S j) * h j) n = sm (fun j => S j * h j + (if j = u then v * h j else 0)) n := sm_cong n (fun j _ => by
    by_cases hj : j = u
    · rw [if_pos hj, if_pos hj, hj, Nat.add_mul]
    · rw [if_neg hj, if_neg hj, Nat.add_zero])
  rw [e, sm_plus, sm_one (f := fun j => if j = u then v * h j else 0) hu (fun j _ hj => by rw [if_neg hj]), if_pos rfl]
theorem sm_c : ∀ (n c : Nat), sm (fun _ => c) n = n * c := by
  intro n c
  induction n with
  | zero => rw [Nat.zero_mul]; rfl
  | succ n ih => rw [sm, ih, Nat.succ_mul]
theorem mM_le {nS nM : Nat} {may : Nat → Nat → Bool} {h : Nat → Nat} {c : Nat} (h5 : nS ≤ 5) (h3 : nM ≤ 3) (hh : ∀ k, h k ≤ c) (k : Nat) : mM nS nM may h k ≤ 15 * c := by
  unfold mM
  have h1 : sm (fun s => sm (fun m => if may m s then h (dst k s (m + 1)) else 0) nM) nS ≤ sm (fun _ => nM * c) nS := sm_le nS (fun s _ => by
    rw [← sm_c]
    refine sm_le nM (fun m _ => ?_)
    split
    · exact hh _
    · exact Nat.zero_le _)
  rw [sm_c] at h1
  refine Nat.le_trans h1 ?_
  rw [← Nat.mul_assoc]
  exact Nat.mul_le_mul (Nat.mul_le_mul h5 h3) (Nat.le_refl _)
theorem mI_le {nS nM : Nat} {may : Nat → Nat → Bool} (h5 : nS ≤ 5) (h3 : nM ≤ 3) : ∀ (i : Nat) (h : Nat → Nat) (c : Nat), (∀ k, h k ≤ c) → ∀ k, mI nS nM may i h k ≤ 15 ^ i * c := by
  intro i
  induction i with
  | zero => intro h c hh k; rw [Nat.pow_zero, Nat.one_mul]; exact hh k
  | succ i ih =>
    intro h c hh k
    have := mM_le (nS := nS) (nM := nM) (may := may) h5 h3 (ih h c hh) k
    rw [Nat.pow_succ, Nat.mul_comm (15 ^ i) 15, Nat.mul_assoc]
    exact this
theorem dst_i1 : ∀ k : Fin 1024, ∀ s : Fin 5, ∀ m : Fin 3, ((nI k.val &&& ((3 <<< ((2 * nI s.val) &&& 31)) ^^^ (-1))) ||| ((nI m.val + 1) <<< ((2 * nI s.val) &&& 31))) = nI (dst k.val s.val (m.val + 1)) := by decide +kernel
theorem dst_i {k s m : Nat} (hk : k < 1024) (hs : s < 5) (hm : m < 3) : ((nI k &&& ((3 <<< ((2 * nI s) &&& 31)) ^^^ (-1))) ||| ((nI m + 1) <<< ((2 * nI s) &&& 31))) = nI (dst k s (m + 1)) := dst_i1 ⟨k, hk⟩ ⟨s, hs⟩ ⟨m, hm⟩
def mayRq (I : Nat → Nat → Int32) (m s : Nat) : Bool := !decide (I 85 (3 * s + 1) = nI m)
noncomputable def fRows (I : Nat → Nat → Int32) (p : qPa) (a : Int32) : Int64 := @ite Int64 (¬ pS p = 0 ∧ qIn 13 a) (Classical.propDecidable _) (lN (rwC I p a.toNatClampNeg)) (-1)
theorem qIn13 {a : Int32} : qIn 13 a ↔ ¬ a < 0 ∧ a ≤ 12 := by
  rw [qIn_iff (by omega)]
  have e2 : (12 : Int32).toInt = 12 := rfl
  have e3 : (nI 13 : Int32).toInt = 13 := rfl
  have e0 : (0 : Int32).toInt = 0 := rfl
  rw [i_le, i_lt, i_lt, i_le, e0, e2, e3]; omega
section L84
variable {d : Nat} {K : qK} {I : Nat → Nat → Int32} {R : Nat → Nat → Option Nat} {sz : Nat} {Q : Option Value → qMem → Prop} {p : qPa}
theorem s11026 {a : Int32} {L : Nat → Nat → Int64} (hK : qLay K sz) (hR : qRef R) (cI : CI I p) (hs : iSn I p) (hq : ∀ L : Nat → Nat → Int64, Q (some (.long (fRows I p a))) (K, I, L, R, sz)) : X (d + 5) 0 0 11026 0 0 0 (qent (qml 11026) [.ref 0, .int a]) [] (K, I, L, R, sz) Q := by
  unfold fRows at hq
  have w5 := cI.w5
  refine e11026 (p := p) (d := d + 4) hK hR cI (fun h1 h2 => ?_) (fun h1 h2 h3 => ?_) (fun h1 h2 h3 => ?_) (fun h1 => ?_)
  · have := hq L
    rw [if_neg (fun q => (qIn13.mp q.2).1 h2)] at this; exact this
  · refine x_cV2 (MCz := 0) (MSz := 0) k11026_30 v11_276_7 (hK.at rfl) (Nat.le_of_ble_eq_true rfl) (Nat.le_of_ble_eq_true rfl) (Nat.le_refl _) (Nat.le_refl _) ?_
    have hin : qIn 13 a := qIn13.mpr ⟨h2, h3⟩
    obtain ⟨n, hn, rfl⟩ := hin
    refine s8003 (p := p) (n := n) (d := d) hK hR cI (fun s hs' => (hs s (by omega)).2) rfl (by omega) (fun L' => ?_)
    refine x_lret k11026_33 rfl (Nat.le_refl _) (Nat.le_refl _) ?_
    have := hq L'
    rw [if_pos ⟨h1, ⟨n, hn, rfl⟩⟩, nI_c (by omega)] at this
    exact this
  · have := hq L
    rw [if_neg (fun q => h3 (qIn13.mp q.2).2)] at this; exact this
  · have := hq L
    rw [if_neg (fun q => q.1 h1)] at this; exact this
/-- the inner loops: what is laid behind a thanks more -/
theorem l12093c {x1 x2 : Int32} {k s : Nat} {Rf : Nat → Nat} {A : (Nat → Nat) → Nat} (hK : qLay K sz) (hR : qRef R) (sM : I 73 25 = nI (pM p)) (s3 : pM p ≤ 3) (hk : k < 1024) (hs : s < 5) (hq : ∀ (L : Nat → Nat → Int64) (S : Nat → Nat), (∀ j, j < 1024 → L 101 j = lN (Rf j)) → (∀ j, j < 1024 → L 102 j = lN (S j)) → (∀ h, sm (fun j => S j * h j) 1024 = A h + Rf k * sm (fun m => if mayRq I m s then h (dst k s (m + 1)) else 0) (pM p)) → X (d + 2) 0 0 12093 0 0 92 [some (.ref 73), some (.int x1), some (.int x2), some (.int (nI k)), some (.int (nI s + 1)), none] [] (K, I, L, R, sz) Q) : ∀ (q i : Nat) (L : Nat → Nat → Int64) (S : Nat → Nat), i + q = pM p → (∀ j, j < 1024 → L 101 j = lN (Rf j)) → (∀ j, j < 1024 → L 102 j = lN (S j)) → (∀ h, sm (fun j => S j * h j) 1024 = A h + Rf k * sm (fun m => if mayRq I m s then h (dst k s (m + 1)) else 0) i) → X (d + 2) 0 0 12093 0 0 115 [some (.ref 73), some (.int x1), some (.int x2), some (.int (nI k)), some (.int (nI s)), some (.int (nI i))] [] (K, I, L, R, sz) Q := by
  intro q
  induction q with
  | zero =>
    intro i L S hi h1 h2 h3
    have hle : I 73 25 ≤ nI i := by rw [sM]; exact nI_le (by omega) (by omega)
    have : i = pM p := by omega
    subst this
    exact g12093_115 hK hR (fun h => absurd hle h) (fun h => absurd hle h) (fun h => absurd hle h) (fun _ => hq L S h1 h2 h3) (fun h => absurd hle h) (fun h => absurd hle h)
  | succ q ih =>
    intro i L S hi h1 h2 h3
    have hnl : ¬ I 73 25 ≤ nI i := by rw [sM]; exact nI_ge (by omega) (by omega)
    have es : (nI s).toNatClampNeg = s := nI_c (by omega)
    have ek : (nI k).toNatClampNeg = k := nI_c (by omega)
    have ed := dst_i hk hs (m := i) (by omega)
    have hlt := dst_lt hk hs (d := i + 1) (by omega)
    refine g12093_115 hK hR (fun _ => ⟨s, hs, rfl⟩) (fun _ _ => by rw [ed]; exact vI hlt (by omega)) (fun _ _ => vI hk (by omega)) (fun h => absurd h hnl) (fun _ h => ?_) (fun _ h => ?_) <;> rw [es] at h
    · have hm : mayRq I i s = true := by unfold mayRq; simp [h]
      rw [ed, ek, nI_c (by omega), h1 k hk, h2 _ hlt, lN_add, nI_1]
      refine ih (i + 1) _ (fun j => if j = dst k s (i + 1) then S (dst k s (i + 1)) + Rf k else S j) (by omega) (fun j hj => by rw [vu_n (by decide)]; exact h1 j hj) (fun j hj => ?_) (fun h => ?_)
      · rw [vu_s]
        by_cases hj' : j = dst k s (i + 1)
        · rw [if_pos hj', hj', pk_uLs]
        · rw [if_neg hj', pk_uLn hj']; exact h2 j hj
      · rw [sm_sc hlt, h3 h, sm, if_pos hm, Nat.mul_add, Nat.add_assoc]
    · have hm : ¬ mayRq I i s = true := by unfold mayRq; simp [h]
      rw [nI_1]
      refine ih (i + 1) L S (by omega) h1 h2 (fun h => ?_)
      rw [h3 h, sm, if_neg hm, Nat.add_zero]
theorem l12093b {x1 x2 : Int32} {k : Nat} {Rf : Nat → Nat} {A : (Nat → Nat) → Nat} (hK : qLay K sz) (hR : qRef R) (sS : I 73 24 = nI (pS p)) (s5 : pS p ≤ 5) (sM : I 73 25 = nI (pM p)) (s3 : pM p ≤ 3) (hk : k < 1024) (hRb : Rf k < 2 ^ 63) (hq : ∀ (L : Nat → Nat → Int64) (S : Nat → Nat), (∀ j, j < 1024 → L 101 j = lN (Rf j)) → (∀ j, j < 1024 → L 102 j = lN (S j)) → (∀ h, sm (fun j => S j * h j) 1024 = A h + Rf k * mM (pS p) (pM p) (mayRq I) h k) → X (d + 2) 0 0 12093 0 0 82 [some (.ref 73), some (.int x1), some (.int x2), some (.int (nI k + 1)), none, none] [] (K, I, L, R, sz) Q) : ∀ (q i : Nat) (L : Nat → Nat → Int64) (S : Nat → Nat), i + q = pS p → (∀ j, j < 1024 → L 101 j = lN (Rf j)) → (∀ j, j < 1024 → L 102 j = lN (S j)) → (∀ h, sm (fun j => S j * h j) 1024 = A h + Rf k * sm (fun s => sm (fun m => if mayRq I m s then h (dst k s (m + 1)) else 0) (pM p)) i) → X (d + 2) 0 0 12093 0 0 92 [some (.ref 73), some (.int x1), some (.int x2), some (.int (nI k)), some (.int (nI i)), none] [] (K, I, L, R, sz) Q := by
  intro q
  have ek : (nI k).toNatClampNeg = k := nI_c (by omega)
  induction q with
  | zero =>
    intro i L S hi h1 h2 h3
    have hle : I 73 24 ≤ nI i := by rw [sS]; exact nI_le (by omega) (by omega)
    have : i = pS p := by omega
    subst this
    exact g12093_92 (d := d + 2) hK hR (fun h => absurd hle h) (fun _ => hq L S h1 h2 h3) (fun h => absurd hle h) (fun h => absurd hle h)
  | succ q ih =>
    intro i L S hi h1 h2 h3
    have hnl : ¬ I 73 24 ≤ nI i := by rw [sS]; exact nI_ge (by omega) (by omega)
    refine g12093_92 (d := d + 2) hK hR (fun _ => vI hk (by omega)) (fun h => absurd h hnl) (fun _ h => ?_) (fun _ h => ?_) <;> rw [ek, h1 k hk, lcmp0 hRb] at h
    · refine hq L S h1 h2 (fun g => ?_)
      rw [h3 g, h, Nat.zero_mul, Nat.zero_mul]
    · refine l12093c (p := p) (A := fun h => A h + Rf k * sm (fun s => sm (fun m => if mayRq I m s then h (dst k s (m + 1)) else 0) (pM p)) i) hK hR sM s3 hk (by omega) (fun L' S' g1 g2 g3 => ?_) (pM p) 0 L S (by omega) h1 h2 (fun g => by rw [h3 g, sm, Nat.mul_zero, Nat.add_zero])
      rw [nI_1]
      refine ih (i + 1) L' S' (by omega) g1 g2 (fun g => ?_)
      rw [g3 g, sm, Nat.mul_add, Nat.add_assoc]
theorem l12093a {x1 x2 : Int32} {Rf : Nat → Nat} (hK : qLay K sz) (hR : qRef R) (sS : I 73 24 = nI (pS p)) (s5 : pS p ≤ 5) (sM : I 73 25 = nI (pM p)) (s3 : pM p ≤ 3) (hRb : ∀ k, k < 1024 → Rf k < 2 ^ 63) (hq : ∀ (L : Nat → Nat → Int64) (S : Nat → Nat), (∀ j, j < 1024 → L 102 j = lN (S j)) → (∀ h, sm (fun j => S j * h j) 1024 = sm (fun k => Rf k * mM (pS p) (pM p) (mayRq I) h k) 1024) → X (d + 2) 0 0 12093 0 0 189 [some (.ref 73), some (.int x1), some (.int x2), some (.int 0), none, none] [] (K, I, L, R, sz) Q) : ∀ (q i : Nat) (L : Nat → Nat → Int64) (S : Nat → Nat), i + q = 1024 → (∀ j, j < 1024 → L 101 j = lN (Rf j)) → (∀ j, j < 1024 → L 102 j = lN (S j)) → (∀ h, sm (fun j => S j * h j) 1024 = sm (fun k => Rf k * mM (pS p) (pM p) (mayRq I) h k) i) → X (d + 2) 0 0 12093 0 0 82 [some (.ref 73), some (.int x1), some (.int x2), some (.int (nI i)), none, none] [] (K, I, L, R, sz) Q := by
  intro q
  induction q with
  | zero =>
    intro i L S hi h1 h2 h3
    have hle : 1024 ≤ nI i := nI_le (a := 1024) (by omega) (by omega)
    have : i = 1024 := by omega
    subst this
    exact g12093_82 (fun _ => hq L S h2 h3) (fun h => absurd hle h)
  | succ q ih =>
    intro i L S hi h1 h2 h3
    have hnl : ¬ 1024 ≤ nI i := nI_ge (b := 1024) (by omega) (by omega)
    refine g12093_82 (fun h => absurd h hnl) (fun _ => ?_)
    refine l12093b (p := p) (A := fun h => sm (fun k => Rf k * mM (pS p) (pM p) (mayRq I) h k) i) hK hR sS s5 sM s3 (by omega) (hRb i (by omega)) (fun L' S' g1 g2 g3 => ?_) (pS p) 0 L S (by omega) h1 h2 (fun g => by rw [h3 g, sm, Nat.mul_zero, Nat.add_zero])
    rw [nI_1]
    exact ih (i + 1) L' S' (by omega) g1 g2 (fun g => by rw [g3 g, sm])
theorem l12093z {x1 x2 : Int32} {Rf : Nat → Nat} (hK : qLay K sz) (hR : qRef R) (hq : ∀ (L : Nat → Nat → Int64), (∀ j, j < 1024 → L 101 j = lN (Rf j)) → (∀ j, j < 1024 → L 102 j = lN 0) → X d 0 0 12093 0 0 82 [some (.ref 73), some (.int x1), some (.int x2), some (.int 0), none, none] [] (K, I, L, R, sz) Q) : ∀ (q i : Nat) (L : Nat → Nat → Int64), i + q = 1024 → (∀ j, j < 1024 → L 101 j = lN (Rf j)) → (∀ j, j < i → L 102 j = lN 0) → X d 0 0 12093 0 0 60 [some (.ref 73), some (.int x1), some (.int x2), some (.int (nI i)), none, none] [] (K, I, L, R, sz) Q := by
  intro q
  induction q with
  | zero =>
    intro i L hi h1 h2
    have hle : 1024 ≤ nI i := nI_le (a := 1024) (by omega) (by omega)
    exact g12093_60 hK hR (fun h => absurd hle h) (fun _ => hq L h1 (fun j hj => h2 j (by omega))) (fun h => absurd hle h)
  | succ q ih =>
    intro i L hi h1 h2
    have hnl : ¬ 1024 ≤ nI i := nI_ge (b := 1024) (by omega) (by omega)
    refine g12093_60 hK hR (fun _ => vI (by omega) (by omega)) (fun h => absurd h hnl) (fun _ => ?_)
    rw [nI_1, nI_c (by omega)]
    refine ih (i + 1) _ (by omega) (fun j hj => by rw [vu_n (by decide)]; exact h1 j hj) (fun j hj => ?_)
    rw [vu_s]
    by_cases hji : j = i
    · rw [hji, pk_uLs]; rfl
    · rw [pk_uLn hji]; exact h2 j (by omega)
theorem l12093y {x1 x2 : Int32} {S : Nat → Nat} (hK : qLay K sz) (hR : qRef R) (hq : ∀ (L : Nat → Nat → Int64), (∀ j, j < 1024 → L 101 j = lN (S j)) → X d 0 0 12093 0 0 53 [some (.ref 73), some (.int x1), some (.int (x2 + 1)), none, none, none] [] (K, I, L, R, sz) Q) : ∀ (q i : Nat) (L : Nat → Nat → Int64), i + q = 1024 → (∀ j, j < i → L 101 j = lN (S j)) → (∀ j, j < 1024 → L 102 j = lN (S j)) → X d 0 0 12093 0 0 189 [some (.ref 73), some (.int x1), some (.int x2), some (.int (nI i)), none, none] [] (K, I, L, R, sz) Q := by
  intro q
  induction q with
  | zero =>
    intro i L hi h1 h2
    have hle : 1024 ≤ nI i := nI_le (a := 1024) (by omega) (by omega)
    exact g12093_189 hK hR (fun h => absurd hle h) (fun _ => hq L (fun j hj => h1 j (by omega))) (fun h => absurd hle h)
  | succ q ih =>
    intro i L hi h1 h2
    have hnl : ¬ 1024 ≤ nI i := nI_ge (b := 1024) (by omega) (by omega)
    refine g12093_189 hK hR (fun _ => vI (by omega) (by omega)) (fun h => absurd h hnl) (fun _ => ?_)
    rw [nI_1, nI_c (by omega)]
    refine ih (i + 1) _ (by omega) (fun j hj => ?_) (fun j hj => by rw [vu_n (by decide)]; exact h2 j hj)
    rw [vu_s]
    by_cases hji : j = i
    · rw [hji, pk_uLs]; exact h2 i (by omega)
    · rw [pk_uLn hji]; exact h1 j (by omega)
theorem l12093w {x1 : Int32} {L : Nat → Nat → Int64} {Rf : Nat → Nat} (hK : qLay K sz) (hR : qRef R) (sS : I 73 24 = nI (pS p)) (s5 : pS p ≤ 5) (hRb : ∀ k, k < 1024 → Rf k < 2 ^ 63) (h1 : ∀ j, j < 1024 → L 101 j = lN (Rf j)) (hq : Q (some (.long (lN (sm (fun k => Rf k * rwG (pS p) (mtF (I 100)) k 0) 1024)))) (K, I, L, R, sz)) : ∀ (q i : Nat), i + q = 1024 → X (d + 1) 0 0 12093 0 0 225 [some (.ref 73), some (.int x1), some (.long (lN (sm (fun k => Rf k * rwG (pS p) (mtF (I 100)) k 0) i))), none, some (.int (nI i)), none] [] (K, I, L, R, sz) Q := by
  intro q
  induction q with
  | zero =>
    intro i hi
    have hle : 1024 ≤ nI i := nI_le (a := 1024) (by omega) (by omega)
    have : i = 1024 := by omega
    subst this
    exact g12093_225 (p := p) hK hR sS s5 (fun h => absurd hle h) (fun h => absurd hle h) (fun _ => hq) (fun h => absurd hle h) (fun h => absurd hle h) (fun h => absurd hle h)
  | succ q ih =>
    intro i hi
    have hnl : ¬ 1024 ≤ nI i := nI_ge (b := 1024) (by omega) (by omega)
    have ec : (nI i).toNatClampNeg = i := nI_c (by omega)
    have ih' := ih (i + 1) (by omega)
    rw [sm] at ih'
    have eG : rwG (pS p) (mtF (I 100)) i 0 = if allB (fun s => mtF (I 100) s (dg i s)) (pS p) = true then 1 else 0 := by
      unfold rwG
      rw [allB_cong (pS p) (q := fun s => mtF (I 100) s (dg i s)) (fun s _ => by
        have : bt 0 s = false := by unfold bt; simp
        rw [this, Bool.false_or])]
    refine g12093_225 (p := p) hK hR sS s5 (fun _ => vI (by omega) (by omega)) (fun _ _ => ⟨i, by omega, rfl⟩) (fun h => absurd h hnl) (fun _ h => ?_) (fun _ h2 h => ?_) (fun _ h2 h => ?_)
    · rw [ec, h1 i (by omega), lcmp0 (hRb i (by omega))] at h
      rw [h, Nat.zero_mul, Nat.add_zero] at ih'
      rw [nI_1, Int64.add_zero]; exact ih'
    · rw [ec] at h
      rw [eG, if_pos h, Nat.mul_one] at ih'
      rw [ec, h1 i (by omega), lN_add, nI_1]; exact ih'
    · rw [ec] at h
      rw [eG, if_neg h, Nat.mul_zero, Nat.add_zero] at ih'
      rw [nI_1, Int64.add_zero]; exact ih'
theorem l12093 {n : Nat} (hK : qLay K sz) (hR : qRef R) (sS : I 73 24 = nI (pS p)) (s5 : pS p ≤ 5) (sM : I 73 25 = nI (pM p)) (s3 : pM p ≤ 3) (hn : n ≤ 12) (hq : ∀ (L : Nat → Nat → Int64), Q (some (.long (lN (mI (pS p) (pM p) (mayRq I) n (fun k => rwG (pS p) (mtF (I 100)) k 0) 0)))) (K, I, L, R, sz)) : ∀ (q i : Nat) (L : Nat → Nat → Int64) (Rf : Nat → Nat), i + q = n → (∀ j, j < 1024 → L 101 j = lN (Rf j)) → (∀ h, sm (fun k => Rf k * h k) 1024 = mI (pS p) (pM p) (mayRq I) i h 0) → X (d + 2) 0 0 12093 0 0 53 [some (.ref 73), some (.int (nI n)), some (.int (nI i)), none, none, none] [] (K, I, L, R, sz) Q := by
  intro q
  have hbd : ∀ (i : Nat) (Rf : Nat → Nat), i ≤ 12 → (∀ h, sm (fun k => Rf k * h k) 1024 = mI (pS p) (pM p) (mayRq I) i h 0) → ∀ k, k < 1024 → Rf k < 2 ^ 63 := by
    intro i Rf hi hA k hk
    have h1 := hA (fun _ => 1)
    have h2 := mI_le (nS := pS p) (nM := pM p) (may := mayRq I) s5 s3 i (fun _ => 1) 1 (fun _ => Nat.le_refl _) 0
    have h3 : Rf k * 1 ≤ sm (fun k => Rf k * 1) 1024 := sm_pos (f := fun k => Rf k * 1) hk
    have h4 : 15 ^ i ≤ 15 ^ 12 := Nat.pow_le_pow_right (by omega) hi
    have h5 : (15 : Nat) ^ 12 < 2 ^ 63 := by decide
    have h6 : sm (fun k => Rf k * 1) 1024 = mI (pS p) (pM p) (mayRq I) i (fun _ => 1) 0 := h1
    omega
  induction q with
  | zero =>
    intro i L Rf hi h1 hA
    have hle : nI n ≤ nI i := nI_le (by omega) (by omega)
    have : i = n := by omega
    subst this
    refine g12093_53 (d := d + 2) (fun _ => ?_) (fun h => absurd hle h)
    have := l12093w (p := p) (d := d + 1) (x1 := nI i) (Q := Q) hK hR sS s5 (hbd i Rf hn hA) h1 (by rw [hA]; exact hq L) 1024 0 rfl
    exact this
  | succ q ih =>
    intro i L Rf hi h1 hA
    have hnl : ¬ nI n ≤ nI i := nI_ge (by omega) (by omega)
    refine g12093_53 (d := d + 2) (fun h => absurd h hnl) (fun _ => ?_)
    refine l12093z (d := d + 2) (Rf := Rf) hK hR (fun L1 g1 g2 => ?_) 1024 0 L rfl h1 (fun j hj => by omega)
    refine l12093a (p := p) (Rf := Rf) hK hR sS s5 sM s3 (hbd i Rf (by omega) hA) (fun L2 S k1 k2 => ?_) 1024 0 L1 (fun _ => 0) rfl g1 g2 (fun h => by
      rw [sm_cong 1024 (g := fun _ => 0) (fun j _ => Nat.zero_mul _), sm_0]; rfl)
    refine l12093y (d := d + 2) (S := S) hK hR (fun L3 m1 => ?_) 1024 0 L2 rfl (fun j hj => by omega) k1
    rw [nI_1]
    exact ih (i + 1) L3 S (by omega) m1 (fun h => by rw [k2 h, hA, mI_c])
theorem l12093i {x1 : Int32} (hK : qLay K sz) (hR : qRef R) (hq : ∀ (L : Nat → Nat → Int64), (∀ j, j < 1024 → L 101 j = lN (if j = 0 then 1 else 0)) → X d 0 0 12093 0 0 53 [some (.ref 73), some (.int x1), some (.int 0), none, none, none] [] (K, I, L, R, sz) Q) : ∀ (q i : Nat) (L : Nat → Nat → Int64), i + q = 1024 → (∀ j, j < i → L 101 j = lN (if j = 0 then 1 else 0)) → X d 0 0 12093 0 0 23 [some (.ref 73), some (.int x1), some (.int (nI i)), none, none, none] [] (K, I, L, R, sz) Q := by
  intro q
  induction q with
  | zero =>
    intro i L hi h1
    have hle : 1024 ≤ nI i := nI_le (a := 1024) (by omega) (by omega)
    exact g12093_23 hK hR (fun h => absurd hle h) (fun h => absurd hle h) (fun _ => hq L (fun j hj => h1 j (by omega))) (fun h => absurd hle h) (fun h => absurd hle h)
  | succ q ih =>
    intro i L hi h1
    have hnl : ¬ 1024 ≤ nI i := nI_ge (b := 1024) (by omega) (by omega)
    have ec : (nI i).toNatClampNeg = i := nI_c (by omega)
    have hz : nI i = 0 ↔ i = 0 := nI_eq (b := 0) (by omega) (by omega)
    have hv : vp_in (nI i) 1024 := vI (by omega) (by omega)
    have hgo : ∀ v, v = lN (if i = 0 then 1 else 0) → X d 0 0 12093 0 0 23 [some (.ref 73), some (.int x1), some (.int (nI i + 1)), none, none, none] [] (K, I, va_up L 101 (vp_updL (L 101) (nI i).toNatClampNeg v), R, sz) Q := by
      intro v hv
      rw [nI_1, ec]
      refine ih (i + 1) _ (by omega) (fun y hy => ?_)
      rw [vu_s]
      by_cases hyi : y = i
      · rw [hyi, pk_uLs]; exact hv
      · rw [pk_uLn hyi]; exact h1 y (by omega)
    refine g12093_23 hK hR (fun _ _ => hv) (fun _ _ => hv) (fun h => absurd h hnl) (fun _ h => hgo 0 ?_) (fun _ h => hgo 1 ?_)
    · rw [if_neg (fun q => h (hz.mpr q))]; rfl
    · rw [if_pos (hz.mp h)]; rfl
theorem s12093 {a : Int32} {L : Nat → Nat → Int64} (hK : qLay K sz) (hR : qRef R) (cI : CI I p) (rI : RI I p) (hs : iSn I p) (hq : ∀ L : Nat → Nat → Int64, Q (some (.long (fRows I p a))) (K, I, L, R, sz)) : X (d + 2) 0 0 12093 0 0 0 (qent (qml 12093) [.ref 73, .int a]) [] (K, I, L, R, sz) Q := by
  unfold fRows at hq
  have w5 := cI.w5
  have w3 := cI.w3
  have hz : I 73 24 = 0 ↔ pS p = 0 := by rw [rI.mS cI]; exact nI_eq (b := 0) (by omega) (by omega)
  have hin : (0 ≤ a ∧ a ≤ 12) ↔ qIn 13 a := by
    rw [qIn13]
    have e0 : (0 : Int32).toInt = 0 := rfl
    have e12 : (12 : Int32).toInt = 12 := rfl
    simp only [i_le, i_lt, e0, e12]; omega
  refine e12093 (d := d + 1) hK (fun h1 => ?_) (fun h1 h2 h3 => ?_) (fun h1 h2 => ?_)
  · have := hq L
    rw [if_neg (fun q => q.1 (hz.mp h1))] at this; exact this
  · have h4 := hin.mp ⟨h2, h3⟩
    obtain ⟨n, hn, rfl⟩ := h4
    have ec : (nI n).toNatClampNeg = n := nI_c (by omega)
    rw [if_pos ⟨fun q => h1 (hz.mpr q), ⟨n, hn, rfl⟩⟩, ec] at hq
    have e : mI (pS p) (pM p) (mayRq I) n (fun k => rwG (pS p) (mtF (I 100)) k 0) 0 = rwC I p n := by
      unfold rwC
      rw [rw_main w5 w3 n]
      have hm : ∀ m s, s < pS p → mayRq I m s = mayI I m s := fun m s hs => by unfold mayRq mayI; rw [rI.2.1.1 s 1 (by omega) hs (by omega)]
      have hM : ∀ (h h' : Nat → Nat), (∀ k, h k = h' k) → ∀ k, mM (pS p) (pM p) (mayRq I) h k = mM (pS p) (pM p) (mayI I) h' k := fun h h' hh k => by
        unfold mM
        refine sm_cong (pS p) (fun s hs => sm_cong (pM p) (fun m _ => ?_))
        rw [hm m s (by omega), hh]
      have hI : ∀ (i : Nat) (h h' : Nat → Nat), (∀ k, h k = h' k) → ∀ k, mI (pS p) (pM p) (mayRq I) i h k = mI (pS p) (pM p) (mayI I) i h' k := by
        intro i
        induction i with
        | zero => intro h h' hh k; exact hh k
        | succ i ih => intro h h' hh k; exact hM _ _ (ih h h' hh) k
      refine hI n _ _ (fun k => ?_) 0
      unfold rwG
      rw [allB_cong (pS p) (q := fun s => bt 0 s || mtF (I 58) s (dg k s)) (fun s hs' => ?_)]
      unfold mtF
      rw [(hs s (by omega)).1]
    refine l12093i (d := d + 2) hK hR (fun L1 g1 => ?_) 1024 0 L rfl (fun j hj => by omega)
    refine l12093 (p := p) (d := d) hK hR (rI.mS cI) w5 (rI.mM cI) w3 (by omega) (fun L' => by rw [e]; exact hq L') n 0 L1 (fun j => if j = 0 then 1 else 0) (by omega) g1 (fun h => ?_)
    rw [sm_one (i := 0) (by omega) (fun j _ hj => by rw [if_neg hj, Nat.zero_mul]), if_pos rfl, Nat.one_mul]; rfl
  · have := hq L
    rw [if_neg (fun q => h2 (hin.mpr q.2))] at this; exact this
end L84
