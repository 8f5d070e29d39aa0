/-! the reference reads a law -/
def rQ (b : Nat → Int32) (n t : Nat) (I : Nat → Nat → Int32) : Prop := ∃ k c q, rS b n t I k c 0 ∧ c ≤ k ∧ q < 90 ∧ I 78 t = nI q
def rCok (b : Nat → Int32) (n t : Nat) (I J : Nat → Nat → Int32) : Prop := ∃ k c q k' x, rS b n t I k c 0 ∧ I 78 t = nI q ∧ q < 90 ∧ gCl b n k = (k', some x) ∧ rCO b n t I c q k' x J
def rCno (b : Nat → Int32) (n t : Nat) (I J : Nat → Nat → Int32) : Prop := ∃ k c k', rS b n t I k c 0 ∧ gCl b n k = (k', none) ∧ rCF t I k' J
def rOn (I : Nat → Nat → Int32) (a : Int32) (J : Nat → Nat → Int32) : Prop := qFr (fun j i => (j = 73 ∧ (i = 3 ∨ i = 4 ∨ i = 5 ∨ i = 14)) ∨ ((j = 77 ∨ j = 78) ∧ i = a.toNatClampNeg)) I J ∧ J 73 14 = a ∧ J 73 3 = 0 ∧ J 73 4 = -1 ∧ J 73 5 = 0 ∧ J 77 a.toNatClampNeg = 0 ∧ J 78 a.toNatClampNeg = 0
def rA1 (b : Nat → Int32) (n t : Nat) (I J : Nat → Nat → Int32) : Prop := ∃ k c e, rS b n t I k c e ∧ b (nx b n k) = -1 ∧ rO b n t I c e (nx b n k) [] J
def rA2 (b : Nat → Int32) (n t : Nat) (I J : Nat → Nat → Int32) : Prop := ∃ k c e, rS b n t I k c e ∧ ¬ b (nx b n k) = -1 ∧ rF t I k c (nx b n k) J
def rFrD (t j i : Nat) : Prop := rFrC t j i ∨ (j = 73 ∧ i = 14)
/-- the text t is such a law -/
def rLW (t : Nat) (I : Nat → Nat → Int32) (cs : List qUc) : Prop := I 78 t = nI cs.length ∧ cs.length ≤ 90 ∧ ∀ c x, cs[c]? = some x → rClU I t c x 340
section L37ca
variable {b : Nat → Int32} {n t k c e q : Nat} {I J M : Nat → Nat → Int32}
theorem rClU_mono {i m m' : Nat} {x : qUc} (h : m ≤ m') (g : rClU I t i x m) : rClU I t i x m' := by
  obtain ⟨p, q, g1, g2, g3, g4, g5, g6⟩ := g
  exact ⟨p, q, g1, g2, g3, by omega, g5, g6⟩
theorem rClU_fr {i m : Nat} {x : qUc} (f : qFr (rFrQ t c q) I J) (hm : m ≤ c) (hi : i < q) (hq : q < 90) (g : rClU I t i x m) : rClU J t i x m := by
  obtain ⟨p, q0, g1, g2, g3, g4, g5, g6⟩ := g
  have hz : ∀ (r : Nat) (l : List Int32), r + l.length ≤ m → qHaz (I 75) (I 76) (340 * t + r) l → qHaz (J 75) (J 76) (340 * t + r) l := fun r l hl hz j y ej => by
    have hj := (List.getElem?_eq_some_iff.mp ej).1
    rw [f 75 _ (by unfold rFrQ rFr; omega), f 76 _ (by unfold rFrQ rFr; omega)]
    exact hz j y ej
  refine ⟨p, q0, ?_, ?_, ?_, g4, hz _ _ g4 g5, ?_⟩
  · rw [f 79 _ (by unfold rFrQ rFr; omega)]; exact g1
  · rw [f 80 _ (by unfold rFrQ rFr; omega)]; exact g2
  · rw [f 81 _ (by unfold rFrQ rFr; omega)]; exact g3
  · obtain ⟨tt, ss⟩ := x
    cases tt with
    | none => exact g6
    | some tt =>
      obtain ⟨g7, g8⟩ := (show q0 = p + tt.length ∧ qHaz (I 75) (I 76) (340 * t + p) tt from g6)
      exact ⟨g7, hz _ _ (by omega) g8⟩
theorem rClU_o {i m : Nat} {x : qUc} {k' : Nat} (o : rO b n t I c e k' [] J) (hm : m ≤ c) (g : rClU I t i x m) : rClU J t i x m := by
  obtain ⟨p, q0, g1, g2, g3, g4, g5, g6⟩ := g
  have hz : ∀ (r : Nat) (l : List Int32), r + l.length ≤ m → qHaz (I 75) (I 76) (340 * t + r) l → qHaz (J 75) (J 76) (340 * t + r) l := fun r l hl hz j y ej => by
    have hj := (List.getElem?_eq_some_iff.mp ej).1
    rw [o.1 75 _ (by unfold rFr; omega), o.1 76 _ (by unfold rFr; omega)]
    exact hz j y ej
  refine ⟨p, q0, ?_, ?_, ?_, g4, hz _ _ g4 g5, ?_⟩
  · rw [o.1 79 _ (by unfold rFr; omega)]; exact g1
  · rw [o.1 80 _ (by unfold rFr; omega)]; exact g2
  · rw [o.1 81 _ (by unfold rFr; omega)]; exact g3
  · obtain ⟨tt, ss⟩ := x
    cases tt with
    | none => exact g6
    | some tt =>
      obtain ⟨g7, g8⟩ := (show q0 = p + tt.length ∧ qHaz (I 75) (I 76) (340 * t + p) tt from g6)
      exact ⟨g7, hz _ _ (by omega) g8⟩
theorem rFrC_D {j i : Nat} (h : rFrC t j i) : rFrD t j i := Or.inl h
end L37ca
section L37c
variable {d : Nat} {K : qK} {I : Nat → Nat → Int32} {L : Nat → Nat → Int64} {R : Nat → Nat → Option Nat} {sz : Nat} {Q : Option Value → qMem → Prop} {b : Nat → Int32} {n : Nat} {t : Nat}
theorem e12026 {a : Int32}  (hK : qLay K sz) (hR : qRef R) (b1 : ∀ I1 : Nat → Nat → Int32, I1 = va_up I 73 (upd (I 73) 14 a) → ∀ I3 : Nat → Nat → Int32, I3 = va_up I1 73 (upd (I1 73) 3 0) → ∀ I5 : Nat → Nat → Int32, I5 = va_up I3 73 (upd (I3 73) 4 (-1)) → ∀ I7 : Nat → Nat → Int32, I7 = va_up I5 73 (upd (I5 73) 5 0) → vp_in a 5) (q1 : ∀ I1 : Nat → Nat → Int32, I1 = va_up I 73 (upd (I 73) 14 a) → ∀ I3 : Nat → Nat → Int32, I3 = va_up I1 73 (upd (I1 73) 3 0) → ∀ I5 : Nat → Nat → Int32, I5 = va_up I3 73 (upd (I3 73) 4 (-1)) → ∀ I7 : Nat → Nat → Int32, I7 = va_up I5 73 (upd (I5 73) 5 0) → ∀ I9 : Nat → Nat → Int32, I9 = va_up I7 77 (upd (I7 77) a.toNatClampNeg 0) → ∀ I11 : Nat → Nat → Int32, I11 = va_up I9 78 (upd (I9 78) a.toNatClampNeg 0) → Q none (K, I11, L, R, sz)) : X d 0 0 12026 0 0 0 (qent (qml 12026) [.ref 73, .int a]) [] (K, I, L, R, sz) Q := show X _ 0 0 12026 0 0 0 [some (.ref 73), some (.int a)] [] _ _ from x_ald0 k12026_0 <| x_ild1 k12026_1 <| x_putI k12026_2 f12_136_11 (Or.inl rfl) (hK.at rfl) <| x_nm fun I1 e2 => x_ald0 k12026_5 <| x_iconst (v := 0) k12026_6 rfl <| x_putI k12026_7 f12_126_11 (Or.inl rfl) (hK.at rfl) <| x_nm fun I3 e4 => x_ald0 k12026_10 <| x_iconst (v := (-1)) k12026_11 rfl <| x_putI k12026_12 f12_133_11 (Or.inl rfl) (hK.at rfl) <| x_nm fun I5 e6 => x_ald0 k12026_15 <| x_iconst (v := 0) k12026_16 rfl <| x_putI k12026_17 f12_139_11 (Or.inl rfl) (hK.at rfl) <| x_nm fun I7 e8 => x_ald0 k12026_20 <| x_getR k12026_21 f12_19_11 (hK.at rfl) rfl (hR _ _ _ rfl) <| x_ild1 k12026_24 <| x_iconst (v := 0) k12026_25 rfl <| x_iast k12026_26 (hK.at rfl) (b1 I1 e2 I3 e4 I5 e6 I7 e8) <| x_nm fun I9 e10 => x_ald0 k12026_27 <| x_getR k12026_28 f12_22_11 (hK.at rfl) rfl (hR _ _ _ rfl) <| x_ild1 k12026_31 <| x_iconst (v := 0) k12026_32 rfl <| x_iast k12026_33 (hK.at rfl) (b1 I1 e2 I3 e4 I5 e6 I7 e8) <| x_nm fun I11 e12 => x_vret k12026_34 rfl (Nat.le_refl _) (Nat.le_refl _) <| (q1 I1 e2 I3 e4 I5 e6 I7 e8 I9 e10 I11 e12)
theorem e12027o  (hw : (I 73 4) = (-1)) (hK : qLay K sz) (hR : qRef R) (b1 : (I 73 4) = (-1) → ∃ k c e, rS b n t I k c e) (b2 : (I 73 4) = (-1) → ∀ I1 : Nat → Nat → Int32, rOk b n t (gNx b n) I I1 → (I1 73 4) = (-1) → ¬ (rV b n I) = (-1) → ∃ k c e, rS b n t I1 k c e) (q1 : (I 73 4) = (-1) → ∀ I1 : Nat → Nat → Int32, rOk b n t (gNx b n) I I1 → (I1 73 4) = (-1) → (rV b n I) = (-1) → Q (some (.int (I1 73 4))) (K, I1, L, R, sz)) (q2 : (I 73 4) = (-1) → ∀ I1 : Nat → Nat → Int32, rOk b n t (gNx b n) I I1 → (I1 73 4) = (-1) → ¬ (rV b n I) = (-1) → ∀ I5 : Nat → Nat → Int32, rBd b n t I1 I5 → ¬ (I5 73 4) = (-1) → Q (some (.int (I5 73 4))) (K, I5, L, R, sz)) : X (d + 2) 0 0 12027 0 0 0 (qent (qml 12027) [.ref 73]) [] (K, I, L, R, sz) Q := show X _ 0 0 12027 0 0 0 [some (.ref 73)] [] _ _ from x_ald0 k12027_0 <| x_getI k12027_1 f12_133_11 (hK.at rfl) rfl <| x_iconst (v := (-1)) k12027_4 rfl <| x_icmpneF (tgt := 20) k12027_5 (by decide) hw <| x_ald0 k12027_8 <| x_cV0 (MCz := 0) (MSz := 0) k12027_9 v12_145_11 (hK.at rfl) (Nat.le_of_ble_eq_true rfl) (Nat.le_of_ble_eq_true rfl) (Nat.le_refl _) (Nat.le_refl _) <| r12008 hK hR (b1 hw) (fun I1 g2 g3 => x_iconst (v := (-1)) k12027_12 rfl <| x_icmpeq (tgt := 20) k12027_13 (by decide) (fun h4 => x_ald0 k12027_20 <| x_getI k12027_21 f12_133_11 (hK.at rfl) rfl <| x_iret k12027_24 rfl (Nat.le_refl _) (Nat.le_refl _) <| (q1 hw I1 g2 g3 h4)) (fun h4 => x_ald0 k12027_16 <| x_cV0 (MCz := 0) (MSz := 0) k12027_17 v12_142_11 (hK.at rfl) (Nat.le_of_ble_eq_true rfl) (Nat.le_of_ble_eq_true rfl) (Nat.le_refl _) (Nat.le_refl _) <| r12009 hK (b2 hw I1 g2 g3 h4) (fun I5 g6 g7 => x_ald0 k12027_20 <| x_getI k12027_21 f12_133_11 (hK.at rfl) rfl <| x_iret k12027_24 rfl (Nat.le_refl _) (Nat.le_refl _) <| (q2 hw I1 g2 g3 h4 I5 g6 g7))))
theorem e12027n   (hK : qLay K sz)  (q1 : ¬ (I 73 4) = (-1) → Q (some (.int (I 73 4))) (K, I, L, R, sz)) (q2 : (I 73 4) = (-1) → X d 0 0 12027 0 0 8 [some (.ref 73)] [] (K, I, L, R, sz) Q) : X d 0 0 12027 0 0 0 (qent (qml 12027) [.ref 73]) [] (K, I, L, R, sz) Q := show X _ 0 0 12027 0 0 0 [some (.ref 73)] [] _ _ from x_ald0 k12027_0 <| x_getI k12027_1 f12_133_11 (hK.at rfl) rfl <| x_iconst (v := (-1)) k12027_4 rfl <| x_icmpne (tgt := 20) k12027_5 (by decide) (fun h1 => x_ald0 k12027_20 <| x_getI k12027_21 f12_133_11 (hK.at rfl) rfl <| x_iret k12027_24 rfl (Nat.le_refl _) (Nat.le_refl _) <| (q1 h1)) (fun h1 => (q2 h1))
theorem r12026 {a : Int32} (hK : qLay K sz) (hR : qRef R) (ha : vp_in a 5) (hq : ∀ J, rOn I a J → J 73 4 = -1 → Q none (K, J, L, R, sz)) : X d 0 0 12026 0 0 0 (qent (qml 12026) [.ref 73, .int a]) [] (K, I, L, R, sz) Q := by
  refine e12026 (hK := hK) (hR := hR) (b1 := fun _ _ _ _ _ _ _ _ => ha) (q1 := fun A hA B hB C hC D hD E hE F hF => ?_)
  have d73 : D 73 = upd (upd (upd (upd (I 73) 14 a) 3 0) 4 (-1)) 5 0 := by rw [hD, vu_s, hC, vu_s, hB, vu_s, hA, vu_s]
  have dj : ∀ j, j ≠ 73 → D j = I j := fun j hj => by rw [hD, vu_n hj, hC, vu_n hj, hB, vu_n hj, hA, vu_n hj]
  have f73 : F 73 = D 73 := by rw [hF, vu_n (by decide), hE, vu_n (by decide)]
  have f78 : F 78 = upd (I 78) a.toNatClampNeg 0 := by rw [hF, vu_s, hE, vu_n (by decide), dj 78 (by decide)]
  have f77 : F 77 = upd (I 77) a.toNatClampNeg 0 := by rw [hF, vu_n (by decide), hE, vu_s, dj 77 (by decide)]
  have v : ∀ i, F 73 i = upd (upd (upd (upd (I 73) 14 a) 3 0) 4 (-1)) 5 0 i := fun i => by rw [f73, d73]
  refine hq F ⟨fun j i hn => ?_, v 14, v 3, v 4, v 5, ?_, ?_⟩ (v 4)
  · by_cases c1 : j = 73
    · subst c1
      rw [v]; unfold upd
      rw [if_neg (fun q => hn (Or.inl ⟨rfl, by omega⟩)), if_neg (fun q => hn (Or.inl ⟨rfl, by omega⟩)), if_neg (fun q => hn (Or.inl ⟨rfl, by omega⟩)), if_neg (fun q => hn (Or.inl ⟨rfl, by omega⟩))]
    · by_cases c2 : j = 77
      · subst c2
        rw [f77]; unfold upd; rw [if_neg (fun q => hn (Or.inr ⟨Or.inl rfl, q⟩))]
      · by_cases c3 : j = 78
        · subst c3
          rw [f78]; unfold upd; rw [if_neg (fun q => hn (Or.inr ⟨Or.inr rfl, q⟩))]
        · rw [hF, vu_n c3, hE, vu_n c2, dj j c1]
  · rw [f77]; unfold upd; rw [if_pos rfl]
  · rw [f78]; unfold upd; rw [if_pos rfl]
theorem r12027o (hK : qLay K sz) (hR : qRef R) (h : ∃ k c e, rS b n t I k c e) (ht : ∀ J, rA1 b n t I J → Q (some (.int (-1))) (K, J, L, R, sz)) (hf : ∀ J, rA2 b n t I J → Q (some (.int (J 73 4))) (K, J, L, R, sz)) : X (d + 2) 0 0 12027 0 0 0 (qent (qml 12027) [.ref 73]) [] (K, I, L, R, sz) Q := by
  obtain ⟨k, c, e, S⟩ := h
  have hv := rV_at S
  refine e12027o (hw := S.w) (hK := hK) (hR := hR) (b1 := fun _ => S.p) (b2 := fun _ I1 h1 _ _ => (rNx S h1).st0.p) (q1 := fun _ I1 h1 hw hx => ?_) (q2 := fun _ I1 h1 _ hx A hA _ => ?_)
  · rw [hw]; exact ht I1 ⟨k, c, e, S, by rw [← hv]; exact hx, rNx S h1⟩
  · exact hf A ⟨k, c, e, S, by rw [← hv]; exact hx, (hA.at (rNx S h1).st0).fr (rNx S h1).1 (Nat.le_refl _) (by have := @nx_ge b n k; omega)⟩
theorem r12027n (hK : qLay K sz) (hw : ¬ I 73 4 = -1) (hq : Q (some (.int (I 73 4))) (K, I, L, R, sz)) : X d 0 0 12027 0 0 0 (qent (qml 12027) [.ref 73]) [] (K, I, L, R, sz) Q := e12027n (hK := hK) (q1 := fun _ => hq) (q2 := fun q => absurd q hw)

theorem e12028 {a : Int32} (hC : ∀ (I : Nat → Nat → Int32) (Q : Option Value → qMem → Prop), rQ b n t I → (∀ J, rCok b n t I J → J 73 4 = -1 → Q none (K, J, L, R, sz)) → (∀ J, rCno b n t I J → ¬ J 73 4 = -1 → Q none (K, J, L, R, sz)) → X (d + 3) 0 0 12025 0 0 0 (qent (qml 12025) [.ref 73]) [] (K, I, L, R, sz) Q) (hK : qLay K sz) (hR : qRef R) (b1 : vp_in a 5) (b2 : ∀ I1 : Nat → Nat → Int32, rOn I a I1 → (I1 73 4) = (-1) → rQ b n t I1) (q1 : ∀ I1 : Nat → Nat → Int32, rOn I a I1 → (I1 73 4) = (-1) → ∀ I4 : Nat → Nat → Int32, rCok b n t I1 I4 → (I4 73 4) = (-1) → X (d + 4) 0 0 12028 0 0 9 [some (.ref 73), some (.int a)] [] (K, I4, L, R, sz) Q) (q2 : ∀ I1 : Nat → Nat → Int32, rOn I a I1 → (I1 73 4) = (-1) → ∀ I7 : Nat → Nat → Int32, rCno b n t I1 I7 → ¬ (I7 73 4) = (-1) → X (d + 4) 0 0 12028 0 0 9 [some (.ref 73), some (.int a)] [] (K, I7, L, R, sz) Q) : X (d + 4) 0 0 12028 0 0 0 (qent (qml 12028) [.ref 73, .int a]) [] (K, I, L, R, sz) Q := show X _ 0 0 12028 0 0 0 [some (.ref 73), some (.int a)] [] _ _ from x_ald0 k12028_0 <| x_ild1 k12028_1 <| x_cV1 (MCz := 0) (MSz := 0) k12028_2 v12_197_11 (hK.at rfl) (Nat.le_of_ble_eq_true rfl) (Nat.le_of_ble_eq_true rfl) (Nat.le_refl _) (Nat.le_refl _) <| r12026 hK hR b1 (fun I1 g2 g3 => x_ald0 k12028_5 <| x_cV0 (MCz := 0) (MSz := 0) k12028_6 v12_200_11 (hK.at rfl) (Nat.le_of_ble_eq_true rfl) (Nat.le_of_ble_eq_true rfl) (Nat.le_refl _) (Nat.le_refl _) <| hC _ _ (b2 I1 g2 g3) (fun I4 g5 g6 => (q1 I1 g2 g3 I4 g5 g6)) (fun I7 g8 g9 => (q2 I1 g2 g3 I7 g8 g9)))
theorem g12028_9 {a : Int32} (hC : ∀ (I : Nat → Nat → Int32) (Q : Option Value → qMem → Prop), rQ b n t I → (∀ J, rCok b n t I J → J 73 4 = -1 → Q none (K, J, L, R, sz)) → (∀ J, rCno b n t I J → ¬ J 73 4 = -1 → Q none (K, J, L, R, sz)) → X (d + 3) 0 0 12025 0 0 0 (qent (qml 12025) [.ref 73]) [] (K, I, L, R, sz) Q) (hw : (I 73 4) = (-1)) (hK : qLay K sz) (hR : qRef R) (b1 : (I 73 4) = (-1) → ∃ k c e, rS b n t I k c e) (b2 : (I 73 4) = (-1) → ∀ I1 : Nat → Nat → Int32, rOk b n t (gNx b n) I I1 → (I1 73 4) = (-1) → ¬ (rV b n I) = 59 → ∃ k c e, rS b n t I1 k c e) (b3 : (I 73 4) = (-1) → ∀ I1 : Nat → Nat → Int32, rOk b n t (gNx b n) I I1 → (I1 73 4) = (-1) → (rV b n I) = 59 → ∀ I9 : Nat → Nat → Int32, I9 = va_up I1 73 (upd (I1 73) 3 ((I1 73 3) + 1)) → (I9 73 4) = (-1) → rQ b n t I9) (q1 : (I 73 4) = (-1) → ∀ I1 : Nat → Nat → Int32, rOk b n t (gNx b n) I I1 → (I1 73 4) = (-1) → ¬ (rV b n I) = 59 → ∀ I5 : Nat → Nat → Int32, rA1 b n t I1 I5 → Q (some (.int (-1))) (K, I5, L, R, sz)) (q2 : (I 73 4) = (-1) → ∀ I1 : Nat → Nat → Int32, rOk b n t (gNx b n) I I1 → (I1 73 4) = (-1) → ¬ (rV b n I) = 59 → ∀ I7 : Nat → Nat → Int32, rA2 b n t I1 I7 → Q (some (.int (I7 73 4))) (K, I7, L, R, sz)) (q3 : (I 73 4) = (-1) → ∀ I1 : Nat → Nat → Int32, rOk b n t (gNx b n) I I1 → (I1 73 4) = (-1) → (rV b n I) = 59 → ∀ I9 : Nat → Nat → Int32, I9 = va_up I1 73 (upd (I1 73) 3 ((I1 73 3) + 1)) → (I9 73 4) = (-1) → ∀ I12 : Nat → Nat → Int32, rCok b n t I9 I12 → (I12 73 4) = (-1) → X (d + 4) 0 0 12028 0 0 9 [some (.ref 73), some (.int a)] [] (K, I12, L, R, sz) Q) (q4 : (I 73 4) = (-1) → ∀ I1 : Nat → Nat → Int32, rOk b n t (gNx b n) I I1 → (I1 73 4) = (-1) → (rV b n I) = 59 → ∀ I9 : Nat → Nat → Int32, I9 = va_up I1 73 (upd (I1 73) 3 ((I1 73 3) + 1)) → (I9 73 4) = (-1) → ∀ I15 : Nat → Nat → Int32, rCno b n t I9 I15 → ¬ (I15 73 4) = (-1) → X (d + 4) 0 0 12028 0 0 9 [some (.ref 73), some (.int a)] [] (K, I15, L, R, sz) Q) : X (d + 4) 0 0 12028 0 0 9 [some (.ref 73), some (.int a)] [] (K, I, L, R, sz) Q := x_ald0 k12028_9 <| x_getI k12028_10 f12_133_11 (hK.at rfl) rfl <| x_iconst (v := (-1)) k12028_13 rfl <| x_icmpneF (tgt := 43) k12028_14 (by decide) hw <| x_ald0 k12028_17 <| x_cV0 (MCz := 0) (MSz := 0) k12028_18 v12_145_11 (hK.at rfl) (Nat.le_of_ble_eq_true rfl) (Nat.le_of_ble_eq_true rfl) (Nat.le_refl _) (Nat.le_refl _) <| r12008 hK hR (b1 hw) (fun I1 g2 g3 => x_bipush (v := 59) k12028_21 rfl <| x_icmpne (tgt := 43) k12028_23 (by decide) (fun h4 => x_ald0 k12028_43 <| x_cV0 (MCz := 0) (MSz := 0) k12028_44 v12_203_11 (hK.at rfl) (Nat.le_of_ble_eq_true rfl) (Nat.le_of_ble_eq_true rfl) (Nat.le_refl _) (Nat.le_refl _) <|  r12027o hK hR (b2 hw I1 g2 g3 h4) (fun I5 g6 => x_iret k12028_47 rfl (Nat.le_refl _) (Nat.le_refl _) <| (q1 hw I1 g2 g3 h4 I5 g6)) (fun I7 g8 => x_iret k12028_47 rfl (Nat.le_refl _) (Nat.le_refl _) <| (q2 hw I1 g2 g3 h4 I7 g8))) (fun h4 => x_ald0 k12028_26 <| x_dup k12028_27 rfl <| x_getI k12028_28 f12_126_11 (hK.at rfl) rfl <| x_iconst (v := 1) k12028_31 rfl <| x_iadd k12028_32 <| x_putI k12028_33 f12_126_11 (Or.inl rfl) (hK.at rfl) <| x_nm fun I9 e10 => qhv (nm4 e10 (by decide) g3) <| fun w11 => x_ald0 k12028_36 <| x_cV0 (MCz := 0) (MSz := 0) k12028_37 v12_200_11 (hK.at rfl) (Nat.le_of_ble_eq_true rfl) (Nat.le_of_ble_eq_true rfl) (Nat.le_refl _) (Nat.le_refl _) <| hC _ _ (b3 hw I1 g2 g3 h4 I9 e10 w11) (fun I12 g13 g14 => x_goto (tgt := 9) k12028_40 (by decide) <| (q3 hw I1 g2 g3 h4 I9 e10 w11 I12 g13 g14)) (fun I15 g16 g17 => x_goto (tgt := 9) k12028_40 (by decide) <| (q4 hw I1 g2 g3 h4 I9 e10 w11 I15 g16 g17))))
theorem g12028_9n {a : Int32} (hw : ¬ (I 73 4) = (-1)) (hK : qLay K sz)  (q1 : ¬ (I 73 4) = (-1) → Q (some (.int (I 73 4))) (K, I, L, R, sz)) : X (d + 4) 0 0 12028 0 0 9 [some (.ref 73), some (.int a)] [] (K, I, L, R, sz) Q := x_ald0 k12028_9 <| x_getI k12028_10 f12_133_11 (hK.at rfl) rfl <| x_iconst (v := (-1)) k12028_13 rfl <| x_icmpneT (tgt := 43) k12028_14 (by decide) hw <| x_ald0 k12028_43 <| x_cV0 (MCz := 0) (MSz := 0) k12028_44 v12_203_11 (hK.at rfl) (Nat.le_of_ble_eq_true rfl) (Nat.le_of_ble_eq_true rfl) (Nat.le_refl _) (Nat.le_refl _) <|  r12027n hK hw (x_iret k12028_47 rfl (Nat.le_refl _) (Nat.le_refl _) <| (q1 hw))
theorem l12028 {a : Int32} (hC : ∀ (I : Nat → Nat → Int32) (Q : Option Value → qMem → Prop), rQ b n t I → (∀ J, rCok b n t I J → J 73 4 = -1 → Q none (K, J, L, R, sz)) → (∀ J, rCno b n t I J → ¬ J 73 4 = -1 → Q none (K, J, L, R, sz)) → X (d + 3) 0 0 12025 0 0 0 (qent (qml 12025) [.ref 73]) [] (K, I, L, R, sz) Q) (hK : qLay K sz) (hR : qRef R) : ∀ (f : Nat) (I : Nat → Nat → Int32) (k c q : Nat) (acc : List qUc), n < k + 2 * f → rS b n t I k c 0 → c ≤ k → 3 * q ≤ k → I 78 t = nI q → acc.length = q → (∀ i x, acc[i]? = some x → rClU I t i x c) → (∀ J k' cs, qBd (gCls b n f k) (fun k2 cs => if b (nx b n k2) = -1 then (nx b n k2, some cs) else (nx b n k2, none)) = (k', some cs) → qFr (rFrC t) I J → rLW t J (acc ++ cs) → Q (some (.int (-1))) (K, J, L, R, sz)) → (∀ J k', qBd (gCls b n f k) (fun k2 cs => if b (nx b n k2) = -1 then ((nx b n k2, some cs) : qRs (List qUc)) else (nx b n k2, none)) = (k', none) → qFr (rFrC t) I J → Q (some (.int (nI k'))) (K, J, L, R, sz)) → X (d + 4) 0 0 12028 0 0 9 [some (.ref 73), some (.int a)] [] (K, I, L, R, sz) Q := by
  intro f
  induction f with
  | zero => intro I k c q acc hk S; have := S.kn; omega
  | succ f ih =>
    intro I k c q acc hk S hc h3 h78 hacc hcl hok hno
    have hb := S.tb
    have n0 := S.n160
    have hkn := S.kn
    have hv := rV_at S
    have n1 := @nx_ge b n k
    have n2 := nx_le hb S.kn
    have hend : ¬ rV b n I = 59 → qBd (gCls b n (f + 1) k) (fun k2 cs => if b (nx b n k2) = -1 then ((nx b n k2, some cs) : qRs (List qUc)) else (nx b n k2, none)) = (if b (nx b n k) = -1 then (nx b n k, some []) else (nx b n k, none)) := fun hx => by
      rw [gCls, if_neg (by rw [← hv]; exact hx)]
      simp only [qBd]
      rw [nx_nx hb S.kn]
    have s3 : ∀ I2 I3, rOk b n t (gNx b n) I I2 → rV b n I = 59 → I3 = va_up I2 73 (upd (I2 73) 3 ((I2 73 3) + 1)) → nx b n k < n ∧ rO b n t I c 0 (nx b n k + 1) [] I3 ∧ gCls b n (f + 1) k = qBd (gCl b n (nx b n k + 1)) (fun k2 c => qBd (gCls b n f k2) (fun k3 cs => (k3, some (c :: cs)))) := fun I2 I3 h2 hx e3 => by
      have hl := hb.lt (k := nx b n k) (by rw [← hv, hx]; decide)
      exact ⟨hl, (rNx S h2).tr0 ((rNx S h2).st0.inc hl e3), by rw [gCls, if_pos (by rw [← hv]; exact hx)]⟩
    refine g12028_9 (hC := hC) (hw := S.w) (hK := hK) (hR := hR) (b1 := fun _ => S.p) (b2 := fun _ I1 h1 _ hx => (rNx S h1).st0.p) (b3 := fun _ I1 h1 _ hx I3 e3 _ => ?_) (q1 := fun _ I1 h1 _ hx I2 h2 => ?_) (q2 := fun _ I1 h1 _ hx I2 h2 => ?_) (q3 := fun _ I1 h1 _ hx I3 e3 _ I5 h5 _ => ?_) (q4 := fun _ I1 h1 _ hx I3 e3 _ I5 h5 hw => ?_)
    · obtain ⟨hl, o3, -⟩ := s3 I1 I3 h1 hx e3
      exact ⟨_, c, q, o3.st0, by omega, by omega, by rw [o3.1 78 t (by unfold rFr; omega)]; exact h78⟩
    · obtain ⟨k0, c0, e0, S0, g1, g2⟩ := h2
      obtain ⟨rfl, rfl, rfl⟩ := (rNx S h1).st0.uq S0
      rw [nx_nx hb S.kn] at g1 g2
      have o := (rNx S h1).tr0 g2
      refine hok I2 (nx b n k) [] (by rw [hend hx, if_pos g1]) (o.1.mono (fun _ _ => rFr_C)) ?_
      rw [List.append_nil]
      refine ⟨by rw [o.1 78 t (by unfold rFr; omega), hacc]; exact h78, by omega, fun i x ei => rClU_mono (m := c0) (by omega) (rClU_o o (Nat.le_refl _) (hcl i x ei))⟩
    · obtain ⟨k0, c0, e0, S0, g1, g2⟩ := h2
      obtain ⟨rfl, rfl, rfl⟩ := (rNx S h1).st0.uq S0
      rw [nx_nx hb S.kn] at g1 g2
      have := hno I2 (nx b n k) (by rw [hend hx, if_neg g1]) (((rNx S h1).1.trans g2.1).mono (fun _ _ => rFr_C))
      rw [g2.2.1]; exact this
    · obtain ⟨hl, o3, eg⟩ := s3 I1 I3 h1 hx e3
      obtain ⟨k0, c0, q0, k5, x, S0, g78, gq, g5, co⟩ := h5
      obtain ⟨rfl, rfl, -⟩ := o3.st0.uq S0
      have eq0 : q0 = q := nI_h (by omega) (by omega) (by rw [← g78, o3.1 78 t (by unfold rFr; omega), h78])
      subst eq0
      obtain ⟨f1, S5, t78, tcl, tl⟩ := co
      have w := (gCl_W hb _ (by omega)).1 _ _ g5
      have w3 : k5 ≤ n := w.2.1
      have w4 : nx b n k + 1 + 3 ≤ k5 := w.1
      have fI : qFr (rFrC t) I I5 := (o3.1.mono (fun _ _ => rFr_C)).trans (f1.mono (fun _ _ => rFrQ_C (by omega)))
      refine ih I5 k5 (c0 + cuL x) (q0 + 1) (acc ++ [x]) (by omega) S5 tl (by omega) t78 (by rw [List.length_append, List.length_singleton]; omega) (fun i y ei => ?_) (fun J k' cs g fJ lw => ?_) (fun J k' g fJ => ?_)
      · by_cases ci : i < acc.length
        · rw [List.getElem?_append_left ci] at ei
          exact rClU_mono (m := c0) (by omega) (rClU_fr f1 (Nat.le_refl _) (by omega) (by omega) (rClU_o o3 (Nat.le_refl _) (hcl i y ei)))
        · rw [List.getElem?_append_right (by omega)] at ei
          have hi : i - acc.length = 0 := by
            have := (List.getElem?_eq_some_iff.mp ei).1
            rw [List.length_singleton] at this; omega
          rw [hi] at ei
          simp only [List.getElem?_cons_zero, Option.some.injEq] at ei
          have : i = q0 := by omega
          subst this; subst ei
          exact tcl
      · obtain ⟨k6, c6, e6, e7⟩ := qBd_some g
        split at e7
        · next qq =>
          simp only [Prod.mk.injEq, Option.some.injEq] at e7
          refine hok J k' (x :: cs) ?_ (fI.trans fJ) (by rw [List.append_assoc] at lw; exact lw)
          rw [eg, qBd_S g5, qBd_S e6]
          simp only [qBd]
          rw [if_pos qq, e7.1, e7.2]
        · simp at e7
      · refine hno J k' ?_ (fI.trans fJ)
        rw [eg, qBd_S g5]
        rcases qBd_none g with e6 | ⟨k6, c6, e6, e7⟩
        · rw [qBd_N e6]; rfl
        · split at e7
          · simp at e7
          · next qq => rw [qBd_S e6]; simp only [qBd]; rw [if_neg qq]; exact e7
    · obtain ⟨hl, o3, eg⟩ := s3 I1 I3 h1 hx e3
      obtain ⟨k0, c0, k5, S0, g5, cf⟩ := h5
      obtain ⟨rfl, rfl, -⟩ := o3.st0.uq S0
      refine g12028_9n (hw := hw) (hK := hK) (q1 := fun _ => ?_)
      have := hno I5 k5 (by rw [eg, qBd_N g5]; rfl) ((o3.1.mono (fun _ _ => rFr_C)).trans cf.1)
      rw [cf.2.1]; exact this
theorem s12028 (hC : ∀ (I : Nat → Nat → Int32) (Q : Option Value → qMem → Prop), rQ b n t I → (∀ J, rCok b n t I J → J 73 4 = -1 → Q none (K, J, L, R, sz)) → (∀ J, rCno b n t I J → ¬ J 73 4 = -1 → Q none (K, J, L, R, sz)) → X (d + 3) 0 0 12025 0 0 0 (qent (qml 12025) [.ref 73]) [] (K, I, L, R, sz) Q) (hK : qLay K sz) (hR : qRef R) (hT : rTp b n I) (t5 : t < 5) (hok : ∀ J k' cs, gLaw b n = (k', some cs) → qFr (rFrD t) I J → rLW t J cs → Q (some (.int (-1))) (K, J, L, R, sz)) (hno : ∀ J k', gLaw b n = (k', none) → qFr (rFrD t) I J → Q (some (.int (nI k'))) (K, J, L, R, sz)) : X (d + 4) 0 0 12028 0 0 0 (qent (qml 12028) [.ref 73, .int (nI t)]) [] (K, I, L, R, sz) Q := by
  obtain ⟨a1, a2, a3, a4⟩ := hT
  have ec : (nI t).toNatClampNeg = t := nI_c (by omega)
  have hS : ∀ A, rOn I (nI t) A → rS b n t A 0 0 0 ∧ A 78 t = nI 0 ∧ qFr (rFrD t) I A := fun A hA => by
    obtain ⟨f, h14, h3, h4, h5, h7, h8⟩ := hA
    rw [ec] at f h7 h8
    refine ⟨⟨⟨by rw [f 73 2 (by omega)]; exact a1, a2, fun j hj => by rw [f 74 j (by omega)]; exact a3 j hj, a4⟩, h3, by omega, h4, h5, by omega, h14, t5, h7, by omega⟩, h8, f.mono (fun j i q => by unfold rFrD rFrC rFr; omega)⟩
  refine e12028 (hC := hC) (hK := hK) (hR := hR) (b1 := vI t5 (by omega)) (b2 := fun A hA _ => ?_) (q1 := fun A hA _ B hB _ => ?_) (q2 := fun A hA _ B hB hw => ?_)
  · obtain ⟨S, h78, -⟩ := hS A hA
    exact ⟨0, 0, 0, S, Nat.le_refl _, by omega, h78⟩
  · obtain ⟨S, h78, fA⟩ := hS A hA
    obtain ⟨k0, c0, q0, k5, x, S0, g78, gq, g5, co⟩ := hB
    obtain ⟨rfl, rfl, -⟩ := S.uq S0
    have eq0 : q0 = 0 := nI_h (by omega) (by omega) (by rw [← g78, h78])
    subst eq0
    obtain ⟨f1, S5, t78, tcl, tl⟩ := co
    have w := (gCl_W a4 _ (by omega)).1 _ _ g5
    have w3 : k5 ≤ n := w.2.1
    have w4 : 0 + 3 ≤ k5 := w.1
    refine l12028 (acc := [x]) hC hK hR 160 B k5 (0 + cuL x) 1 (by omega) S5 tl (by omega) t78 rfl (fun i y ei => ?_) (fun J k' cs g fJ lw => ?_) (fun J k' g fJ => ?_)
    · cases i with
      | zero => simp only [List.getElem?_cons_zero, Option.some.injEq] at ei; subst ei; exact tcl
      | succ i => simp at ei
    · obtain ⟨k6, c6, e6, e7⟩ := qBd_some g
      split at e7
      · next qq =>
        simp only [Prod.mk.injEq, Option.some.injEq] at e7
        refine hok J k' (x :: cs) ?_ ((fA.trans (f1.mono (fun _ _ h => rFrC_D (rFrQ_C (by omega) h)))).trans (fJ.mono (fun _ _ => rFrC_D))) lw
        unfold gLaw
        rw [qBd_S g5, qBd_S e6, if_pos qq, e7.1, e7.2]
      · simp at e7
    · refine hno J k' ?_ ((fA.trans (f1.mono (fun _ _ h => rFrC_D (rFrQ_C (by omega) h)))).trans (fJ.mono (fun _ _ => rFrC_D)))
      unfold gLaw
      rw [qBd_S g5]
      rcases qBd_none g with e6 | ⟨k6, c6, e6, e7⟩
      · rw [qBd_N e6]
      · split at e7
        · simp at e7
        · next qq => rw [qBd_S e6, if_neg qq]; exact e7
  · obtain ⟨S, h78, fA⟩ := hS A hA
    obtain ⟨k0, c0, k5, S0, g5, cf⟩ := hB
    obtain ⟨rfl, rfl, -⟩ := S.uq S0
    refine g12028_9n (hw := hw) (hK := hK) (q1 := fun _ => ?_)
    have := hno B k5 (by unfold gLaw; rw [qBd_N g5]) (fA.trans (cf.1.mono (fun _ _ => rFrC_D)))
    rw [cf.2.1]; exact this
theorem rClause (hK : qLay K sz) (hR : qRef R) (hb : qTb b n) (d : Nat) : ∀ (I : Nat → Nat → Int32) (Q : Option Value → qMem → Prop), rQ b n t I → (∀ J, rCok b n t I J → J 73 4 = -1 → Q none (K, J, L, R, sz)) → (∀ J, rCno b n t I J → ¬ J 73 4 = -1 → Q none (K, J, L, R, sz)) → X (d + 46) 0 0 12025 0 0 0 (qent (qml 12025) [.ref 73]) [] (K, I, L, R, sz) Q := by
  have hU : ∀ d, RSp (d + 38) 12021 K L R sz b n t 0 (gUnit b n 6) := fun d => RSp_c (by omega) (rUnit hK hR hb 6 (by omega) d)
  have hS : ∀ d, RSp (d + 24) 12018 K L R sz b n t 0 (gSum b n (gAtom b n 6)) := fun d => RSp_c (by omega) (rSum hK hR hb 6 (by omega) d)
  have hC : ∀ d, RSp (d + 25) 12020 K L R sz b n t 0 (gCmp b n 6) := fun d => RSp_c (by omega) (rCmpr hK hR hb 6 (by omega) d)
  have hD := rCond (m := 38) hK hR hb hU (d + 39) (by omega)
  have hM : ∀ z, RSp (d + z + 39) 12022 K L R sz b n t 0 (gLp b n cAnd (gUnit b n 6) 160) := fun z => rr12022 (d := d + z + 35) hK hR (hU (d + z)) (gUnit_W hb 6)
  have hN : RSp (d + 45) 12023 K L R sz b n t 0 (gLp b n cOr (gTruth b n (gUnit b n 6)) 160) := rr12023 (d := d + 41) hK hR (RSp_c (by omega) (hU (d + 6))) (RSp_c (by omega) (hM 5)) (gUnit_W hb 6) (gLp_W hb cAnd_n (gUnit_W hb 6) 160)
  intro I Q ⟨k, c, q, S, hc, hq9, h78⟩ ht hf
  exact rr12025 (d := d + 42) hK hR hD (RSp_c (by omega) (hS (d + 21))) (RSp_c (by omega) (hC (d + 20))) (RSp_c (by omega) (hM 6)) hN S hc hq9 h78 (fun J k' x g h => ht J ⟨k, c, q, k', x, S, h78, hq9, g, h⟩ h.2.1.w) (fun J k' g h => hf J ⟨k, c, k', S, g, h⟩ (rCF_w h))

end L37c
