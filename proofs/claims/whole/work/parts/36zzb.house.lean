/-! the reference reads houses: the items of a clause, the clause -/
/-- what the reference holds of h -/
def yE (I : Nat → Nat → Int32) (h : qHs) : Prop := (∀ j, j < 3 → I 73 (20 + j) = nI (hCn h j)) ∧ ∀ j, j < 3 → ∀ s, s < hCn h j → ∀ c, c < sLen j → I 84 (yPc j s c) = hRw h j s c
section L36zzb
variable {d : Nat} {K : qK} {I : Nat → Nat → Int32} {L : Nat → Nat → Int64} {R : Nat → Nat → Option Nat} {sz : Nat} {Q : Option Value → qMem → Prop} {b : Nat → Int32} {n : Nat}
variable {J M : Nat → Nat → Int32} {k r t : Nat} {h : qHs}
theorem gIt_nx {j r t f m : Nat} {row : Nat → Int32} (hb : qTb b n) (hk : k ≤ n) : gIt b n j r t f m row (nx b n k) = gIt b n j r t f m row k := by
  cases f <;> simp only [gIt, nx_nx hb hk]
theorem nI_m {a : Nat} (h : a < 2 ^ 31) : ¬ nI a = -1 := fun e => nI_pos h (by rw [e]; decide)
theorem yRw_m {j s : Nat} : (∀ o z, yAt o z → yRw j s o z) ∧ ∀ o z, yRo j s o z → yRw j s o z := ⟨fun _ _ q => Or.inl q, fun _ _ q => Or.inr q⟩
theorem yRw_2 {j s : Nat} : ¬ yRw j s 73 2 := fun q => q.elim yAt_2 (fun w => absurd w.1 (by decide))
theorem yRw_4 {j s : Nat} : ∀ i, ¬ yRw j s 74 i := fun i q => q.elim (yAt_4 i) (fun w => absurd w.1 (by decide))
theorem yRw_c {j s z : Nat} (hz : 5 ≤ z) : ¬ yRw j s 73 z := fun q => q.elim (fun w => by omega) (fun w => absurd w.1 (by decide))
theorem rTt_ro {P : Nat → Nat → Prop} (h2 : ∀ z, ¬ P 73 z) (h4 : ∀ i, ¬ P 74 i) (S : rTt b n I k) (f : qFr P I J) : rTt b n J k := ⟨rTt_fr (h2 2) h4 S.1 f, (f 73 3 (h2 3)).trans S.2.1, S.2.2⟩
theorem yRo_2 {j s : Nat} : ∀ z, ¬ yRo j s 73 z := fun z q => absurd q.1 (by decide)
theorem yRo_4 {j s : Nat} : ∀ i, ¬ yRo j s 74 i := fun i q => absurd q.1 (by decide)
theorem l12040 {j s : Nat} (hj : j < 3) (hs : s < hMx j) (hK : qLay K sz) (hR : qRef R) : ∀ (f m : Nat) (I : Nat → Nat → Int32) (k : Nat) (row : Nat → Int32), m < 16 → cB j m < f → yS b n I k → nx b n k = k → I 73 19 = nI r → I 73 (20 + j) = nI s → (j = 2 → I 73 22 = nI t) → yRow I j s row → (∀ J k' row' y2 y3, gIt b n j r t f m row k = (k', some row') → yO (yRw j s) b n I k' J → yRow J j s row' → X (d + 3) 0 0 12040 0 0 168 [some (.ref 73), some (.int (gKn j)), some (.int y2), some (.int y3)] [] (K, J, L, R, sz) Q) → (∀ J k' y2 y3, gIt b n j r t f m row k = (k', none) → (yXx (yRw j s) b n I k' J ∨ ySo (yRw j s) b n I k' J) → X (d + 3) 0 0 12040 0 0 168 [some (.ref 73), some (.int (gKn j)), some (.int y2), some (.int y3)] [] (K, J, L, R, sz) Q) → X (d + 3) 0 0 12040 0 0 74 [some (.ref 73), some (.int (gKn j)), some (.int (rM j m)), some (.int (b k))] [] (K, I, L, R, sz) Q := by
  have h5 := hMx5 hj
  have hs4 := sLen_4 hj
  intro f
  induction f with
  | zero => intro m I k row hm hc; exact absurd hc (Nat.not_lt_zero _)
  | succ f ih =>
    intro m I k row hm hc S hn h0 hcn ht hrow hok hbad
    have hb := S.1.tb
    have h160 : n ≤ 160 := S.1.1.2.1
    have hkn := S.1.2.2
    have eN : gCol j (b k) = none → gIt b n j r t (f + 1) m row k = (k, some row) := fun q => by rw [gIt_n (by rw [hn]; exact q), hn]
    have eC : ¬ yPl I (gKn j) (b k) = -1 → ∃ c, gCol j (b k) = some c ∧ b k = gLt j c ∧ c < sLen j ∧ c < 4 := fun q => by
      cases hg : gCol j (b k) with
      | none => exact absurd (yPl_n hj hg) q
      | some c => exact ⟨c, rfl, (gCol_c hj hg).1, (gCol_c hj hg).2, by have := (gCol_c hj hg).2; omega⟩
    have go : ∀ (I5 : Nat → Nat → Int32) (c : Nat) (lo : Int32), gCol j (b k) = some c → c < sLen j → c < 4 → ¬ m.testBit c = true → I5 = va_up I 73 (upd (I 73) 3 ((I 73 3) + 1)) → lo = hLo j c → X (d + 3) 0 0 12040 0 0 150 [some (.ref 73), some (.int (gKn j)), some (.int (rM j m ||| (1 <<< ((b k - 97) &&& 31)))), some (.int (b k))] [.int lo, .ref 73, .int (yPl I5 (gKn j) (b k)), .ref 84] (K, I5, L, R, sz) Q := fun I5 c lo hg hc3 hc4 hbit e5 elo => by
      have ec := (gCol_c hj hg).1
      have hlt : k < n := hb.lt (gCol_n hg)
      obtain ⟨T5, f5, w5⟩ := rTt_inc S.1 hlt e5
      have S5 : yS b n I5 (k + 1) := ⟨T5, w5.trans S.2⟩
      have c5 : ∀ z, 19 ≤ z → I5 73 z = I 73 z := fun z hz => f5 73 z (fun q => by have := q.2; omega)
      have eP : yPl I5 (gKn j) (b k) = nI (yPc j s c) := yPl_s hj (by omega) ((c5 (20 + j) (by omega)).trans hcn) hg
      have eH : yHi I5 (b k) = hHi r t j c := yHi_eq hj ((c5 19 (by omega)).trans h0) (fun q => (c5 22 (by omega)).trans (ht q)) hg
      have eM : rM j m ||| (1 <<< ((b k - 97) &&& 31)) = rM j (m ||| (1 <<< c)) := by rw [ec]; exact yB2 ⟨j, hj⟩ ⟨m, hm⟩ ⟨c, hc4⟩ hc3
      have hB : cB j (m ||| (1 <<< c)) + 1 = cB j m ∧ (m ||| (1 <<< c)) < 16 := cB_1 ⟨j, hj⟩ ⟨m, hm⟩ ⟨c, hc4⟩ hc3 hbit
      have e3 := gIt_s (b := b) (n := n) (k := k) (r := r) (t := t) (f := f) (row := row) (by rw [hn]; exact hg) hbit
      rw [hn, ← eH, ← elo] at e3
      have hp := yPc_lt hj hs hc3
      have hv : vp_in (nI (yPc j s c)) 34 := vI hp (by omega)
      rw [eM, eP]
      have sI : ∀ {I1 I4 : Nat → Nat → Int32} {k' : Nat} {v : Int32}, rTt b n I1 k' → I4 = va_up I1 84 (upd (I1 84) (nI (yPc j s c)).toNatClampNeg v) → rTt b n I4 k' ∧ qFr (yRo j s) I1 I4 ∧ I4 73 4 = I1 73 4 ∧ I4 84 = upd (I1 84) (yPc j s c) v := fun {I1 I4 k' v} T e => by
        rw [nI_c (by omega)] at e
        have f4 : qFr (yRo j s) I1 I4 := by rw [e]; exact yRo_up hc3
        exact ⟨rTt_ro yRo_2 yRo_4 T f4, f4, f4 73 4 (yRo_2 4), by rw [e, vu_s]⟩
      refine g12040_150 (b := b) (n := n) hK hR ⟨_, S5⟩ (fun _ _ _ => hv) (fun I1 v g I4 e4 => ?_) (fun _ _ _ => hv) (fun I8 v g I11 e11 => ?_) (fun I1 v g I4 e4 I6 g6 => ?_) (fun I8 v g I11 e11 I13 g13 => ?_)
      · obtain ⟨k', q1, q2⟩ := g.at S5
        exact ⟨k', (sI q2.2.1 e4).1⟩
      · obtain ⟨k', q1, q2⟩ := g.at S5
        exact ⟨k', (sI q2.2.1 e11).1⟩
      · obtain ⟨k', q1, q2⟩ := g.at S5
        obtain ⟨T4, f4, w4, r4⟩ := sI q2.2.1 e4
        obtain ⟨T6, f6, w6⟩ := g6.at T4
        have hk' := T4.2.2
        rw [rVt_at T4]
        rw [qBd_S q1] at e3
        have F : qFr (yRw j s) I I6 := (f5.mono yRw_m.1).trans ((q2.1.mono yRw_m.1).trans ((f4.mono yRw_m.2).trans (f6.mono yRw_m.1)))
        have G : gIt b n j r t f (m ||| (1 <<< c)) (upd row c v) (nx b n k') = gIt b n j r t (f + 1) m row k := (gIt_nx hb hk').trans e3.symm
        refine ih (m ||| (1 <<< c)) I6 (nx b n k') (upd row c v) hB.2 (by omega) ⟨T6, w6.trans (w4.trans q2.2.2)⟩ (nx_nx hb hk') ((F 73 19 (yRw_c (by omega))).trans h0) ((F 73 (20 + j) (yRw_c (by omega))).trans hcn) (fun q => (F 73 22 (yRw_c (by omega))).trans (ht q)) (fun z hz => ?_) (fun J k2 row' y2 y3 a1 a2 a3 => hok J k2 row' y2 y3 (G.symm.trans a1) ⟨F.trans a2.1, a2.2⟩ a3) (fun J k2 y2 y3 a1 a2 => hbad J k2 y2 y3 (G.symm.trans a1) (a2.elim (fun w => Or.inl ⟨F.trans w.1, w.2⟩) (fun w => Or.inr ⟨⟨F.trans w.1.1, w.1.2⟩, w.2⟩)))
        rw [f6 84 _ (fun q => absurd q.1 (by decide)), r4]
        unfold upd
        by_cases hz' : z = c
        · rw [if_pos hz', if_pos (by rw [hz'])]
        · rw [if_neg hz', if_neg (fun e => hz' (yPc_i hj hj hs hs hz hc3 e).2.2), q2.1 84 _ (fun q => absurd q.1 (by decide)), f5 84 _ (fun q => absurd q.1 (by decide))]
          exact hrow z hz
      · obtain ⟨k', q1, q2⟩ := g.at S5
        obtain ⟨T11, f11, w11, r11⟩ := sI q2.2.1 e11
        obtain ⟨T13, f13, w13⟩ := g13.at T11
        have hk' := q2.2.1.2.2
        rw [qBd_N q1] at e3
        have F : qFr (yRw j s) I I13 := (f5.mono yRw_m.1).trans ((q2.1.mono yRw_m.1).trans ((f11.mono yRw_m.2).trans (f13.mono yRw_m.1)))
        have W : I13 73 4 = nI k' := w13.trans (w11.trans q2.2.2)
        refine g12040_74 hK hR (fun _ => hbad I13 k' _ _ e3 (Or.inl ⟨F, ⟨_, T13⟩, W, hk'⟩)) (fun q => absurd (W.symm.trans q) (nI_m (by omega))) (fun q => absurd (W.symm.trans q) (nI_m (by omega))) (fun q => absurd (W.symm.trans q) (nI_m (by omega))) (fun q => absurd (W.symm.trans q) (nI_m (by omega))) (fun q => absurd (W.symm.trans q) (nI_m (by omega)))
    refine g12040_74 hK hR (fun q => absurd S.2 q) (fun _ q => ?_) (fun _ q hbit => ?_) (fun _ q hbit I5 e5 hc => ?_) (fun _ q hbit I5 e5 hc hc2 => ?_) (fun _ q hbit I5 e5 hc hc2 => ?_)
    · have hg : gCol j (b k) = none := by
        cases hg : gCol j (b k) with
        | none => rfl
        | some c =>
          rw [yPl_s hj (by omega) hcn hg] at q
          exact absurd q (nI_m (by have := yPc_lt hj hs (gCol_c hj hg).2; omega))
      exact hok I k row _ _ (eN hg) ⟨qFr.refl, S⟩ hrow
    · obtain ⟨c, hg, ec, hc3, hc4⟩ := eC q
      rw [ec, yB1 ⟨j, hj⟩ ⟨m, hm⟩ ⟨c, hc4⟩ hc3] at hbit
      exact hbad I k _ _ (by rw [gIt_t (by rw [hn]; exact hg) hbit, hn]) (Or.inr ⟨⟨qFr.refl, S⟩, hn, gCol_no hg, gCol_n hg⟩)
    · obtain ⟨c, hg, ec, hc3, hc4⟩ := eC q
      rw [ec, yB1 ⟨j, hj⟩ ⟨m, hm⟩ ⟨c, hc4⟩ hc3] at hbit
      exact go I5 c 1 hg hc3 hc4 hbit e5 ((yLo_eq hj hg).1 hc).symm
    · obtain ⟨c, hg, ec, hc3, hc4⟩ := eC q
      rw [ec, yB1 ⟨j, hj⟩ ⟨m, hm⟩ ⟨c, hc4⟩ hc3] at hbit
      exact go I5 c 0 hg hc3 hc4 hbit e5 ((yLo_eq hj hg).2.1 hc hc2).symm
    · obtain ⟨c, hg, ec, hc3, hc4⟩ := eC q
      rw [ec, yB1 ⟨j, hj⟩ ⟨m, hm⟩ ⟨c, hc4⟩ hc3] at hbit
      exact go I5 c 1 hg hc3 hc4 hbit e5 ((yLo_eq hj hg).2.2 hc2).symm
abbrev yCn (o z : Nat) : Prop := o = 73 ∧ 20 ≤ z ∧ z ≤ 22
theorem s12040_168 {j s : Nat} {y2 y3 : Int32} (hj : j < 3) (hs : s < hMx j) (hK : qLay K sz) (hcn : I 73 (20 + j) = nI s) (hq : ∀ J, qFr yCn I J → (∀ i, i < 3 → J 73 (20 + i) = if i = j then nI (s + 1) else I 73 (20 + i)) → Q none (K, J, L, R, sz)) : X (d + 3) 0 0 12040 0 0 168 [some (.ref 73), some (.int (gKn j)), some (.int y2), some (.int y3)] [] (K, I, L, R, sz) Q := by
  have up : ∀ {I J : Nat → Nat → Int32} {z : Nat} {v : Int32}, 20 ≤ z ∧ z ≤ 22 → J = va_up I 73 (upd (I 73) z v) → qFr yCn I J ∧ ∀ y, J 73 y = if y = z then v else I 73 y := fun hz e => by
    rw [e]; exact ⟨qFr.up1 ⟨rfl, hz⟩, fun y => by rw [vu_s]; unfold upd; rfl⟩
  rcases j3 hj with rfl | rfl | rfl
  · refine g12040_168_0 hK (fun I1 e1 I3 e3 I5 e5 => ?_)
    obtain ⟨f1, q1⟩ := up ⟨by decide, by decide⟩ e1
    obtain ⟨f3, q3⟩ := up ⟨by decide, by decide⟩ e3
    obtain ⟨f5, q5⟩ := up ⟨by decide, by decide⟩ e5
    refine hq I5 (f1.trans (f3.trans f5)) (fun i hi => ?_)
    rcases j3 hi with rfl | rfl | rfl
    · have hcn : I 73 20 = nI s := hcn
      rw [q5, if_neg (by decide), q3, if_neg (by decide), q1, if_pos rfl, if_pos rfl, hcn, nI_1]
    · simp [q5, q3, q1]
    · simp [q5, q3, q1]
  · refine g12040_168_1 hK (fun I1 e1 I3 e3 I5 e5 => ?_)
    obtain ⟨f1, q1⟩ := up ⟨by decide, by decide⟩ e1
    obtain ⟨f3, q3⟩ := up ⟨by decide, by decide⟩ e3
    obtain ⟨f5, q5⟩ := up ⟨by decide, by decide⟩ e5
    refine hq I5 (f1.trans (f3.trans f5)) (fun i hi => ?_)
    rcases j3 hi with rfl | rfl | rfl
    · simp [q5, q3, q1]
    · have hcn : I 73 21 = nI s := hcn
      rw [q5, if_neg (by decide), q3, if_pos rfl, q1, if_neg (by decide), if_pos rfl, hcn, nI_1]
    · simp [q5, q3, q1]
  · refine g12040_168_2 hK (fun I1 e1 I3 e3 I5 e5 => ?_)
    obtain ⟨f1, q1⟩ := up ⟨by decide, by decide⟩ e1
    obtain ⟨f3, q3⟩ := up ⟨by decide, by decide⟩ e3
    obtain ⟨f5, q5⟩ := up ⟨by decide, by decide⟩ e5
    refine hq I5 (f1.trans (f3.trans f5)) (fun i hi => ?_)
    rcases j3 hi with rfl | rfl | rfl
    · simp [q5, q3, q1]
    · simp [q5, q3, q1]
    · have hcn : I 73 22 = nI s := hcn
      rw [q5, if_pos rfl, q3, if_neg (by decide), q1, if_neg (by decide), if_pos rfl, hcn, nI_1]
end L36zzb
