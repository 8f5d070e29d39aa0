/-! the reference reads houses: the whole text -/
abbrev yFz (o z : Nat) : Prop := (o = 73 ∧ (z = 3 ∨ z = 4 ∨ (19 ≤ z ∧ z ≤ 22))) ∨ o = 84
section L36zzd
variable {d : Nat} {K : qK} {I : Nat → Nat → Int32} {L : Nat → Nat → Int64} {R : Nat → Nat → Option Nat} {sz : Nat} {Q : Option Value → qMem → Prop} {b : Nat → Int32} {n : Nat}
variable {J M : Nat → Nat → Int32} {k r t : Nat} {h : qHs}
theorem yFc_z : ∀ o z, yFc o z → yFz o z := fun o z q => q.elim (fun w => Or.inl ⟨w.1, w.2.elim Or.inl (fun v => Or.inr (v.elim Or.inl (fun u => Or.inr ⟨by omega, u.2⟩)))⟩) Or.inr
theorem yFc_n : (¬ yFc 73 2) ∧ (∀ i, ¬ yFc 74 i) ∧ ¬ yFc 73 19 := ⟨fun q => q.elim (fun w => by omega) (fun w => absurd w (by decide)), fun i q => q.elim (fun w => absurd w.1 (by decide)) (fun w => absurd w (by decide)), fun q => q.elim (fun w => by omega) (fun w => absurd w (by decide))⟩
theorem yE_fr (E : yE I h) (f : qFr yAt I J) : yE J h := ⟨fun j hj => (f 73 (20 + j) (fun q => by have := q.2; omega)).trans (E.1 j hj), fun j hj s hs c hc => (f 84 _ (fun q => absurd q.1 (by decide))).trans (E.2 j hj s hs c hc)⟩
theorem l12042 (hK : qLay K sz) (hR : qRef R) (hr : 2 ≤ r) (hr6 : r ≤ 6) : ∀ (f : Nat) (I : Nat → Nat → Int32) (k : Nat) (h : qHs), n < k + f → yS b n I k → yE I h → I 73 19 = nI r → hInv r h → (∀ J k' h2, qBd (gHl b n r f h k) (gHe b n) = (k', some h2) → yO yFc b n I k' J → yE J h2 → Q (some (.int (-1))) (K, J, L, R, sz)) → (∀ J k', qBd (gHl b n r f h k) (gHe b n) = (k', none) → qFr yFc I J → Q (some (.int (nI k'))) (K, J, L, R, sz)) → X (d + 4) 0 0 12042 0 0 64 [some (.ref 73)] [] (K, I, L, R, sz) Q := by
  intro f
  induction f with
  | zero => intro I k h hf S; have := S.1.2.2; omega
  | succ f ih =>
    intro I k h hf S E h0 iv hok hbad
    have hb := S.1.tb
    have h160 : n ≤ 160 := S.1.1.2.1
    have hkn := S.1.2.2
    have g2 := nx_le hb hkn
    have hge := @nx_ge b n k
    have hn := nx_nx hb hkn
    have eV := rVt_at S.1
    have s2 : ∀ {I2 : Nat → Nat → Int32}, yLk b n I I2 → yS b n I2 (nx b n k) ∧ qFr yAt I I2 := fun g => ⟨⟨(g.at S.1).1, (g.at S.1).2.2.trans S.2⟩, (g.at S.1).2.1⟩
    have s6 : ∀ {I2 I6 : Nat → Nat → Int32}, yLk b n I I2 → yLk b n I2 I6 → yS b n I6 (nx b n k) ∧ qFr yAt I I6 := fun g g6 => by
      have := g6.at (s2 g).1.1
      rw [hn] at this
      exact ⟨⟨this.1, this.2.2.trans (s2 g).1.2⟩, (s2 g).2.trans this.2.1⟩
    have eV2 : ∀ {I2 : Nat → Nat → Int32}, yLk b n I I2 → rV b n I2 = b (nx b n k) := fun g => by rw [rVt_at (s2 g).1.1, hn]
    have e0 : ¬ rV b n I = 59 → qBd (gHl b n r (f + 1) h k) (gHe b n) = gHe b n (nx b n k) h := fun q => qBd_S (gHl_0 (Or.inr (by rw [← eV]; exact q)))
    have s15 : ∀ {I2 I15 : Nat → Nat → Int32}, yLk b n I I2 → rV b n I = 59 → I15 = va_up I2 73 (upd (I2 73) 3 ((I2 73 3) + 1)) → yS b n I15 (nx b n k + 1) ∧ qFr yAt I I15 ∧ nx b n k < n := fun g q e => by
      have hl : nx b n k < n := hb.lt (by rw [← eV, q]; decide)
      obtain ⟨T, F, W⟩ := rTt_inc (s2 g).1.1 hl e
      exact ⟨⟨T, W.trans (s2 g).1.2⟩, (s2 g).2.trans F, hl⟩
    refine g12042_64 (b := b) (n := n) (r := r) (h := h) hK hR (fun _ => ⟨k, S.1⟩) (fun _ I2 g _ _ => ⟨_, (s2 g).1.1⟩) (fun _ I2 g _ _ I6 g6 _ => ⟨_, (s6 g g6).1⟩) (fun _ I2 g _ _ I6 g6 _ => ⟨yE_fr E (s6 g g6).2, iv⟩) (fun _ I2 g _ _ I6 g6 _ _ => ⟨_, (s6 g g6).1⟩) (fun _ I2 g q I15 e15 => ?_) (fun q => absurd S.2 q) (fun _ I2 g _ q => absurd (s2 g).1.2 q) (fun _ I2 g q _ I6 g6 q2 I9 gb => ?_) (fun _ I2 g q _ I6 g6 q2 w => ?_) (fun _ I2 g q _ I6 g6 q2 w I13 gb => ?_) (fun _ I2 g q I15 e15 I17 gy => ?_) (fun _ I2 g q I15 e15 I19 gn => ?_)
    · obtain ⟨S15, F15, -⟩ := s15 g q e15
      exact ⟨⟨_, S15⟩, yE_fr E F15, (F15 73 19 (fun q => by have := q.2; omega)).trans h0, iv⟩
    · have x9 := gb.at (s6 g g6).1.1
      rw [x9.2.2]
      exact hbad I9 _ (by rw [e0 q, gHe_n (fun w => q2 (by rw [eV2 g, ← hn]; exact w.1)), hn]) (((s6 g g6).2.trans x9.1).mono yFc_a)
    · rw [(s6 g g6).1.2]
      exact hok I6 _ h (by rw [e0 q, gHe_y g2 hb (by rw [hn, ← eV2 g]; exact q2) w, hn]) ⟨(s6 g g6).2.mono yFc_a, (s6 g g6).1⟩ (yE_fr E (s6 g g6).2)
    · have x9 := gb.at (s6 g g6).1.1
      rw [x9.2.2]
      exact hbad I13 _ (by rw [e0 q, gHe_n (fun v => w v.2), hn]) (((s6 g g6).2.trans x9.1).mono yFc_a)
    · obtain ⟨S15, F15, hl⟩ := s15 g q e15
      obtain ⟨k0, k', h2, b1, b2, b3, b4⟩ := gy
      obtain rfl := S15.1.uq b1.1
      have F17 := (F15.mono yFc_a).trans b3.1
      have e1 : gHl b n r (f + 1) h k = gHl b n r f h2 k' := by rw [gHl, if_pos (by rw [← eV]; exact q), b2]; rfl
      have wk := ((gHc_W hb (r := r) (h := h)) _ S15.1.2.2).1 _ _ b2
      refine ih I17 k' h2 (by omega) b3.2 b4 ((F17 73 19 yFc_n.2.2).trans h0) (gHc_ok hr hr6 iv b2) (fun J k2 h3 e g3 => hok J k2 h3 (by rw [e1]; exact e) ⟨F17.trans g3.1, g3.2⟩) (fun J k2 e g3 => hbad J k2 (by rw [e1]; exact e) (F17.trans g3))
    · obtain ⟨S15, F15, hl⟩ := s15 g q e15
      obtain ⟨k0, k', b1, b2, b3⟩ := gn
      obtain rfl := S15.1.uq b1.1
      have e1 : qBd (gHl b n r (f + 1) h k) (gHe b n) = (k', none) := by rw [gHl, if_pos (by rw [← eV]; exact q), b2]; rfl
      rcases b3 with ⟨F, ⟨z, T⟩, W, hk'⟩ | ⟨⟨F, S19⟩, hn', hx, hy⟩
      · have nm : ¬ I19 73 4 = -1 := by rw [W]; exact nI_m (by omega)
        refine g12042_64 (b := b) (n := n) (r := r) (h := h) hK hR (fun q => absurd q nm) (fun q => absurd q nm) (fun q => absurd q nm) (fun q => absurd q nm) (fun q => absurd q nm) (fun q => absurd q nm) (fun _ => ?_) (fun q => absurd q nm) (fun q => absurd q nm) (fun q => absurd q nm) (fun q => absurd q nm) (fun q => absurd q nm) (fun q => absurd q nm)
        rw [W]
        exact hbad I19 k' e1 ((F15.mono yFc_a).trans F)
      · have eW : rV b n I19 = b k' := by rw [rVt_at S19.1, hn']
        have t2 : ∀ {I2 : Nat → Nat → Int32}, yLk b n I19 I2 → yS b n I2 k' ∧ qFr yAt I19 I2 := fun g => by
          have := g.at S19.1
          rw [hn'] at this
          exact ⟨⟨this.1, this.2.2.trans S19.2⟩, this.2.1⟩
        have t6 : ∀ {I2 I6 : Nat → Nat → Int32}, yLk b n I19 I2 → yLk b n I2 I6 → yS b n I6 k' ∧ qFr yAt I19 I6 := fun g g6 => by
          have := g6.at (t2 g).1.1
          rw [hn'] at this
          exact ⟨⟨this.1, this.2.2.trans (t2 g).1.2⟩, (t2 g).2.trans this.2.1⟩
        have eW2 : ∀ {I2 : Nat → Nat → Int32}, yLk b n I19 I2 → rV b n I2 = b k' := fun g => by rw [rVt_at (t2 g).1.1, hn']
        refine g12042_64 (b := b) (n := n) (r := r) (h := h) hK hR (fun _ => ⟨_, S19.1⟩) (fun _ I2 g _ _ => ⟨_, (t2 g).1.1⟩) (fun _ I2 g _ _ I6 g6 _ => ⟨_, (t6 g g6).1⟩) (fun _ I2 g _ _ I6 g6 q => absurd ((eW2 g).symm.trans q) hy) (fun _ I2 g _ _ I6 g6 q => absurd ((eW2 g).symm.trans q) hy) (fun _ I2 g q => absurd (eW.symm.trans q) hx) (fun q => absurd S19.2 q) (fun _ I2 g _ q => absurd (t2 g).1.2 q) (fun _ I2 g q _ I6 g6 q2 I9 gb => ?_) (fun _ I2 g _ _ I6 g6 q => absurd ((eW2 g).symm.trans q) hy) (fun _ I2 g _ _ I6 g6 q => absurd ((eW2 g).symm.trans q) hy) (fun _ I2 g q => absurd (eW.symm.trans q) hx) (fun _ I2 g q => absurd (eW.symm.trans q) hx)
        have x9 := gb.at (t6 g g6).1.1
        rw [x9.2.2]
        exact hbad I9 k' e1 ((F15.mono yFc_a).trans (F.trans (((t6 g g6).2.trans x9.1).mono yFc_a)))
theorem up73 {z : Nat} {v : Int32} (e : J = va_up I 73 (upd (I 73) z v)) : ∀ y, J 73 y = if y = z then v else I 73 y := fun y => by rw [e, vu_s]; rfl
/-- the reference reads a house -/
theorem s12042 (hK : qLay K sz) (hR : qRef R) (T : rTp b n I) (hok : ∀ J k' v h, gHouse b n = (k', some (v, h)) → qFr yFz I J → J 73 19 = v → yE J h → Q (some (.int (-1))) (K, J, L, R, sz)) (hbad : ∀ J k', gHouse b n = (k', none) → qFr yFz I J → Q (some (.int (nI k'))) (K, J, L, R, sz)) : X (d + 4) 0 0 12042 0 0 0 (qent (qml 12042) [.ref 73]) [] (K, I, L, R, sz) Q := by
  have hb : qTb b n := T.2.2.2
  have h160 : n ≤ 160 := T.2.1
  have st9 : ∀ {I1 I3 I5 I7 I9 : Nat → Nat → Int32}, I1 = va_up I 73 (upd (I 73) 3 0) → I3 = va_up I1 73 (upd (I1 73) 4 (-1)) → I5 = va_up I3 73 (upd (I3 73) 20 0) → I7 = va_up I5 73 (upd (I5 73) 21 0) → I9 = va_up I7 73 (upd (I7 73) 22 0) → yS b n I9 0 ∧ qFr yFc I I9 ∧ yE I9 hs0 := fun {I1 I3 I5 I7 I9} e1 e3 e5 e7 e9 => by
    have q1 := up73 e1
    have q3 := up73 e3
    have q5 := up73 e5
    have q7 := up73 e7
    have q9 := up73 e9
    have f1 : qFr yFc I I1 := by rw [e1]; exact qFr.up1 (Or.inl ⟨rfl, Or.inl rfl⟩)
    have f3 : qFr yFc I1 I3 := by rw [e3]; exact qFr.up1 (Or.inl ⟨rfl, Or.inr (Or.inl rfl)⟩)
    have f5 : qFr yFc I3 I5 := by rw [e5]; exact qFr.up1 (Or.inl ⟨rfl, Or.inr (Or.inr ⟨by decide, by decide⟩)⟩)
    have f7 : qFr yFc I5 I7 := by rw [e7]; exact qFr.up1 (Or.inl ⟨rfl, Or.inr (Or.inr ⟨by decide, by decide⟩)⟩)
    have f9 : qFr yFc I7 I9 := by rw [e9]; exact qFr.up1 (Or.inl ⟨rfl, Or.inr (Or.inr ⟨by decide, by decide⟩)⟩)
    have F := f1.trans (f3.trans (f5.trans (f7.trans f9)))
    refine ⟨⟨⟨rTt_fr yFc_n.1 yFc_n.2.1 T F, ?_, Nat.zero_le _⟩, ?_⟩, F, fun j hj => ?_, fun j hj s hs => ?_⟩
    · simp [q9, q7, q5, q3, q1]; rfl
    · simp [q9, q7, q5, q3, q1]
    · rcases j3 hj with rfl | rfl | rfl
      · simp [q9, q7, q5, q3, q1]; rfl
      · simp [q9, q7, q5, q3, q1]; rfl
      · simp [q9, q7, q5, q3, q1]; rfl
    · have : hCn hs0 j = 0 := by rcases j3 hj with rfl | rfl | rfl <;> rfl
      omega
  have g2 := nx_le hb (Nat.zero_le n)
  have s11 : ∀ {I9 I11 : Nat → Nat → Int32}, (yS b n I9 0 ∧ qFr yFc I I9 ∧ yE I9 hs0) → yLk b n I9 I11 → yS b n I11 (nx b n 0) ∧ qFr yFc I I11 ∧ yE I11 hs0 := fun s g => by
    have := g.at s.1.1
    exact ⟨⟨this.1, this.2.2.trans s.1.2⟩, s.2.1.trans (this.2.1.mono yFc_a), yE_fr s.2.2 this.2.1⟩
  have s14 : ∀ {I9 I11 I14 : Nat → Nat → Int32}, (yS b n I9 0 ∧ qFr yFc I I9 ∧ yE I9 hs0) → yLk b n I9 I11 → rV b n I9 = 114 → I14 = va_up I11 73 (upd (I11 73) 3 ((I11 73 3) + 1)) → yS b n I14 (nx b n 0 + 1) ∧ qFr yFc I I14 ∧ yE I14 hs0 := fun s g q e => by
    have hl : nx b n 0 < n := hb.lt (by rw [← rVt_at s.1.1, q]; decide)
    obtain ⟨T4, F, W⟩ := rTt_inc (s11 s g).1.1 hl e
    exact ⟨⟨T4, W.trans (s11 s g).1.2⟩, (s11 s g).2.1.trans (F.mono yFc_a), yE_fr (s11 s g).2.2 F⟩
  have f19 : ∀ {I16 I19 : Nat → Nat → Int32} {v : Int32}, I19 = va_up I16 73 (upd (I16 73) 19 v) → qFr (fun o z => o = 73 ∧ z = 19) I16 I19 := fun e => by rw [e]; exact qFr.up1 ⟨rfl, rfl⟩
  have m19 : ∀ o z, (o = 73 ∧ z = 19) → yFz o z := fun o z q => Or.inl ⟨q.1, Or.inr (Or.inr (by omega))⟩
  have t19 : ∀ {I16 I19 : Nat → Nat → Int32} {k : Nat}, rTt b n I16 k → qFr (fun o z => o = 73 ∧ z = 19) I16 I19 → rTt b n I19 k := fun T f => ⟨rTt_fr (fun q => absurd q.2 (by decide)) (fun i q => absurd q.1 (by decide)) T.1 f, (f 73 3 (fun q => absurd q.2 (by decide))).trans T.2.1, T.2.2⟩
  refine e12042 (b := b) (n := n) hK hR (fun I1 e1 I3 e3 I5 e5 I7 e7 I9 e9 => ⟨_, (st9 e1 e3 e5 e7 e9).1.1⟩) (fun I1 e1 I3 e3 I5 e5 I7 e7 I9 e9 I11 g q I14 e14 => ⟨_, (s14 (st9 e1 e3 e5 e7 e9) g q e14).1⟩) (fun I1 e1 I3 e3 I5 e5 I7 e7 I9 e9 I11 g q => ⟨_, (s11 (st9 e1 e3 e5 e7 e9) g).1⟩) (fun I1 e1 I3 e3 I5 e5 I7 e7 I9 e9 I11 g q I14 e14 I16 v gv I19 e19 => ?_) (fun I1 e1 I3 e3 I5 e5 I7 e7 I9 e9 I11 g q I14 e14 I16 v gn I19 e19 => ?_) (fun I1 e1 I3 e3 I5 e5 I7 e7 I9 e9 I11 g q I26 gb => ?_)
  · have s9 := st9 e1 e3 e5 e7 e9
    have S14 := s14 s9 g q e14
    obtain ⟨k', q1, q2⟩ := gv.at S14.1
    obtain ⟨v1, v2⟩ := gNum_in q1
    obtain ⟨w1, w2, w3⟩ := rNat v1 v2
    have f := f19 e19
    have E16 := yE_fr S14.2.2 q2.1
    have E19 : yE I19 hs0 := ⟨fun j hj => (f 73 (20 + j) (fun q => by have := q.2; omega)).trans (E16.1 j hj), fun j hj s hs c hc => (f 84 _ (fun q => absurd q.1 (by decide))).trans (E16.2 j hj s hs c hc)⟩
    have h19 : I19 73 19 = v := by rw [e19]; exact up_at
    have F : qFr yFz I I19 := ((S14.2.1.trans (q2.1.mono yFc_a)).mono yFc_z).trans (f.mono m19)
    have eG : gHouse b n = qBd (qBd (gHl b n v.toNatClampNeg 160 hs0 k') (gHe b n)) (fun k2 h => (k2, some (v, h))) := by unfold gHouse; rw [if_pos (by rw [← rVt_at s9.1.1]; exact q), q1]; rfl
    have wk := (gNum_W hb 2 2 6 (nx b n 0 + 1) S14.1.1.2.2).1 _ _ q1
    refine l12042 (r := v.toNatClampNeg) hK hR w2 w3 160 I19 k' hs0 (by omega) ⟨t19 q2.2.1 f, (f 73 4 (fun q => absurd q.2 (by decide))).trans q2.2.2⟩ E19 (h19.trans w1) hInv_0 (fun J k2 h2 e gJ EJ => hok J k2 v h2 (by rw [eG, e]; rfl) (F.trans (gJ.1.mono yFc_z)) ((gJ.1 73 19 yFc_n.2.2).trans h19) EJ) (fun J k2 e gJ => hbad J k2 (by rw [eG, e]; rfl) (F.trans (gJ.mono yFc_z)))
  · have s9 := st9 e1 e3 e5 e7 e9
    have S14 := s14 s9 g q e14
    obtain ⟨k', q1, q2⟩ := gn.at S14.1
    have f := f19 e19
    have F : qFr yFz I I19 := ((S14.2.1.trans (q2.1.mono yFc_a)).mono yFc_z).trans (f.mono m19)
    have hk' := q2.2.1.2.2
    have W : I19 73 4 = nI k' := (f 73 4 (fun q => absurd q.2 (by decide))).trans q2.2.2
    have nm : ¬ I19 73 4 = -1 := by rw [W]; exact nI_m (by omega)
    refine g12042_64 (b := b) (n := n) (r := 0) (h := hs0) hK hR (fun q => absurd q nm) (fun q => absurd q nm) (fun q => absurd q nm) (fun q => absurd q nm) (fun q => absurd q nm) (fun q => absurd q nm) (fun _ => ?_) (fun q => absurd q nm) (fun q => absurd q nm) (fun q => absurd q nm) (fun q => absurd q nm) (fun q => absurd q nm) (fun q => absurd q nm)
    rw [W]
    exact hbad I19 k' (by unfold gHouse; rw [if_pos (by rw [← rVt_at s9.1.1]; exact q), q1]; rfl) F
  · have s9 := st9 e1 e3 e5 e7 e9
    have S11 := s11 s9 g
    have x := gb.at S11.1.1
    rw [x.2.2]
    exact hbad I26 _ (by unfold gHouse; rw [if_neg (by rw [← rVt_at s9.1.1]; exact q)]) ((S11.2.1.trans (x.1.mono yFc_a)).mono yFc_z)
end L36zzd
