/-! laws worked out: the reference's answer -/
theorem qSu_len {a : List Int32} {va : Ev → Int32} {da : Nat} (h : qSu a va da) : 0 < a.length :=
  h (fun a _ _ => 0 < a.length) (fun _ _ _ => Nat.lt_succ_self 0) (fun _ _ => Nat.lt_succ_self 0) (fun _ _ _ _ _ da db _ h1 _ => by simp only [List.length_append, List.length_cons, List.length_nil]; omega)
theorem qTr_len {a : List Int32} {va : Ev → Int32} {da : Nat} (h : qTr a va da) : 0 < a.length :=
  h (fun a _ _ => 0 < a.length) (fun _ _ _ _ _ da db _ h1 _ => by simp only [List.length_append, List.length_cons, List.length_nil]; omega) (fun _ _ _ h => by simp only [List.length_append, List.length_cons, List.length_nil]; omega) (fun _ _ _ _ da db h1 _ => by simp only [List.length_append, List.length_cons, List.length_nil]; omega) (fun _ _ _ _ da db h1 _ => by simp only [List.length_append, List.length_cons, List.length_nil]; omega)
/-- clause c of the text of place n -/
def qClR (I : Nat → Nat → Int32) (n c : Nat) (x : qCls) : Prop := ∃ p q : Nat, I 79 (90 * n + c) = nI p ∧ I 80 (90 * n + c) = nI q ∧ I 81 (90 * n + c) = nI (q + x.2.1.length) ∧ q + x.2.1.length ≤ 340 ∧ qHaz (I 75) (I 76) (340 * n + q) x.2.1 ∧ (match x.1 with | none => p = q | some t => q = p + t.1.length ∧ qHaz (I 75) (I 76) (340 * n + p) t.1)
def qLawR (I : Nat → Nat → Int32) (n : Nat) (cs : List qCls) : Prop := I 78 n = nI cs.length ∧ cs.length ≤ 90 ∧ (∀ c x, cs[c]? = some x → qClR I n c x) ∧ ∀ c, c ∈ cs → qClsOk c
section L30
variable {d : Nat} {K : qK} {I : Nat → Nat → Int32} {L : Nat → Nat → Int64} {R : Nat → Nat → Option Nat} {sz : Nat} {ev : Ev} {Q : Option Value → qMem → Prop}
theorem e12032 {a : Int32}    (q1 : X d 0 0 12032 0 0 5 [some (.ref 73), some (.int a), some (.int (90 * a))] [] (K, I, L, R, sz) Q) : X d 0 0 12032 0 0 0 (qent (qml 12032) [.ref 73, .int a]) [] (K, I, L, R, sz) Q := show X _ 0 0 12032 0 0 0 [some (.ref 73), some (.int a), none] [] _ _ from x_bipush (v := 90) k12032_0 rfl <| x_ild1 k12032_2 <| x_imul k12032_3 <| x_ist2 k12032_4 (Nat.le_of_ble_eq_true rfl) rfl <| q1
theorem g12032_5 {x1 : Int32} {x2 : Int32}  (hK : qLay K sz) (hR : qRef R) (b1 : vp_in x1 5) (b2 : ¬ ((90 * x1) + (I 78 x1.toNatClampNeg)) ≤ x2 → vp_in x2 450) (q1 : ((90 * x1) + (I 78 x1.toNatClampNeg)) ≤ x2 → Q (some (.int 0)) (K, I, L, R, sz)) (q2 : ¬ ((90 * x1) + (I 78 x1.toNatClampNeg)) ≤ x2 → (I 79 x2.toNatClampNeg) = (I 80 x2.toNatClampNeg) → X d 0 0 12032 0 0 55 [some (.ref 73), some (.int x1), some (.int x2)] [] (K, I, L, R, sz) Q) (q3 : ¬ ((90 * x1) + (I 78 x1.toNatClampNeg)) ≤ x2 → ¬ (I 79 x2.toNatClampNeg) = (I 80 x2.toNatClampNeg) → X d 0 0 12032 0 0 49 [some (.ref 73), some (.int x1), some (.int x2)] [.int (I 80 x2.toNatClampNeg), .int (I 79 x2.toNatClampNeg), .int x1, .ref 73] (K, I, L, R, sz) Q) : X d 0 0 12032 0 0 5 [some (.ref 73), some (.int x1), some (.int x2)] [] (K, I, L, R, sz) Q := x_ild2 k12032_5 <| x_bipush (v := 90) k12032_6 rfl <| x_ild1 k12032_8 <| x_imul k12032_9 <| x_ald0 k12032_10 <| x_getR k12032_11 f12_22_11 (hK.at rfl) rfl (hR _ _ _ rfl) <| x_ild1 k12032_14 <| x_iald k12032_15 (hK.at rfl) b1 <| x_iadd k12032_16 <| x_icmpge (tgt := 79) k12032_17 (by decide) (fun h1 => x_iconst (v := 0) k12032_79 rfl <| x_iret k12032_80 rfl (Nat.le_refl _) (Nat.le_refl _) <| (q1 h1)) (fun h1 => x_ald0 k12032_20 <| x_getR k12032_21 f12_25_11 (hK.at rfl) rfl (hR _ _ _ rfl) <| x_ild2 k12032_24 <| x_iald k12032_25 (hK.at rfl) (b2 h1) <| x_ald0 k12032_26 <| x_getR k12032_27 f12_28_11 (hK.at rfl) rfl (hR _ _ _ rfl) <| x_ild2 k12032_30 <| x_iald k12032_31 (hK.at rfl) (b2 h1) <| x_icmpeq (tgt := 55) k12032_32 (by decide) (fun h2 => (q2 h1 h2)) (fun h2 => x_ald0 k12032_35 <| x_ild1 k12032_36 <| x_ald0 k12032_37 <| x_getR k12032_38 f12_25_11 (hK.at rfl) rfl (hR _ _ _ rfl) <| x_ild2 k12032_41 <| x_iald k12032_42 (hK.at rfl) (b2 h1) <| x_ald0 k12032_43 <| x_getR k12032_44 f12_28_11 (hK.at rfl) rfl (hR _ _ _ rfl) <| x_ild2 k12032_47 <| x_iald k12032_48 (hK.at rfl) (b2 h1) <| (q3 h1 h2)))
theorem g12032_55 {x1 : Int32} {x2 : Int32}  (hK : qLay K sz) (hR : qRef R) (b1 : vp_in x2 450) (q1 : X d 0 0 12032 0 0 69 [some (.ref 73), some (.int x1), some (.int x2)] [.int (I 81 x2.toNatClampNeg), .int (I 80 x2.toNatClampNeg), .int x1, .ref 73] (K, I, L, R, sz) Q) : X d 0 0 12032 0 0 55 [some (.ref 73), some (.int x1), some (.int x2)] [] (K, I, L, R, sz) Q := x_ald0 k12032_55 <| x_ild1 k12032_56 <| x_ald0 k12032_57 <| x_getR k12032_58 f12_28_11 (hK.at rfl) rfl (hR _ _ _ rfl) <| x_ild2 k12032_61 <| x_iald k12032_62 (hK.at rfl) b1 <| x_ald0 k12032_63 <| x_getR k12032_64 f12_31_11 (hK.at rfl) rfl (hR _ _ _ rfl) <| x_ild2 k12032_67 <| x_iald k12032_68 (hK.at rfl) b1 <| q1
theorem l12032b {n c : Nat} {x2 : Int32} {x : qCls} {S : Nat → Int32} (hK : qLay K sz) (hR : qRef R) (hL : qLet I ev) (hn : n < 5) (hc : c < 90) (hx : qClR I n c x) (hok : qClsOk x) (hq : ∀ S, Q (some (.int (x.2.2 ev))) (K, va_up I 83 S, L, R, sz)) : X (d + 4) 0 0 12032 0 0 55 [some (.ref 73), some (.int (nI n)), some (.int (nI (90 * n + c)))] [] (K, va_up I 83 S, L, R, sz) Q := by
  obtain ⟨p, q, e1, e2, e3, e4, e5, -⟩ := hx
  obtain ⟨-, ds, hds, hS⟩ := hok
  have hci : (nI (90 * n + c)).toNatClampNeg = 90 * n + c := nI_c (by omega)
  refine g12032_55 hK hR (vI (by omega) (by omega)) ?_
  rw [hci, vu_n (by decide), vu_n (by decide), e2, e3]
  refine x_cV3 (MCz := 0) (MSz := 0) k12032_69 v12_227_11 (hK.at rfl) (Nat.le_of_ble_eq_true rfl) (Nat.le_of_ble_eq_true rfl) (Nat.le_refl _) (Nat.le_refl _) ?_
  refine s12031S (I := va_up I 83 S) hK hR (ev := ev) hL hS hds hn e4 rfl rfl rfl e5 (fun S' => ?_)
  rw [vu_t]
  exact x_iret k12032_72 rfl (Nat.le_refl _) (Nat.le_refl _) (hq S')
theorem l12032 {n N : Nat} (hK : qLay K sz) (hR : qRef R) (hL : qLet I ev) (hn : n < 5) (hN : I 78 n = nI N) (h90 : N ≤ 90) : ∀ (r : List qCls) (c : Nat) (S : Nat → Int32), c + r.length = N → (∀ j x, r[j]? = some x → qClR I n (c + j) x) → (∀ x, x ∈ r → qClsOk x) → (∀ S, Q (some (.int (qWorth ev r))) (K, va_up I 83 S, L, R, sz)) → X (d + 4) 0 0 12032 0 0 5 [some (.ref 73), some (.int (nI n)), some (.int (nI (90 * n + c)))] [] (K, va_up I 83 S, L, R, sz) Q := by
  have eN : ∀ S : Nat → Int32, 90 * nI n + va_up I 83 S 78 (nI n).toNatClampNeg = nI (90 * n + N) := fun S => by
    rw [nI_c (by omega), vu_n (by decide), hN, show (90 : Int32) = nI 90 from rfl, pk_mul, nI_add]
  intro r
  induction r with
  | nil =>
    intro c S hc hx hok hq
    have hle : 90 * nI n + va_up I 83 S 78 (nI n).toNatClampNeg ≤ nI (90 * n + c) := by rw [eN]; exact nI_le (by simp at hc; omega) (by omega)
    exact g12032_5 hK hR (vI (by omega) (by omega)) (fun h => absurd hle h) (fun _ => hq S) (fun h => absurd hle h) (fun h => absurd hle h)
  | cons x r ih =>
    intro c S hc hx hok hq
    rw [List.length_cons] at hc
    have hnl : ¬ 90 * nI n + va_up I 83 S 78 (nI n).toNatClampNeg ≤ nI (90 * n + c) := by rw [eN]; exact nI_ge (by omega) (by omega)
    have hci : (nI (90 * n + c)).toNatClampNeg = 90 * n + c := nI_c (by omega)
    have hx0 := hx 0 x rfl
    have hok0 := hok x (List.mem_cons_self ..)
    rw [Nat.add_zero] at hx0
    have hx0' := hx0
    obtain ⟨p, q, e1, e2, e3, e4, e5, e6⟩ := hx0'
    obtain ⟨ts, sc, sv⟩ := x
    refine g12032_5 hK hR (vI (by omega) (by omega)) (fun _ => vI (by omega) (by omega)) (fun h => absurd h hnl) (fun _ h1 => ?_) (fun _ h1 => ?_)
    · rw [hci, vu_n (by decide), vu_n (by decide), e1, e2] at h1
      cases ts with
      | none => exact l12032b (x2 := 0) hK hR hL hn (by omega) hx0 hok0 hq
      | some te =>
        obtain ⟨tc, tv⟩ := te
        obtain ⟨e7, e8⟩ := (show q = p + tc.length ∧ qHaz (I 75) (I 76) (340 * n + p) tc from e6)
        obtain ⟨dt, hdt, hT⟩ := hok0.1 _ rfl
        replace hT : qTr tc tv dt := hT
        have := qTr_len hT
        have h2 : q + sc.length ≤ 340 := e4
        exact absurd ((nI_eq (by omega) (by omega)).mp h1) (by omega)
    · rw [hci, vu_n (by decide), vu_n (by decide), e1, e2] at h1
      cases ts with
      | none => exact absurd (by rw [show p = q from e6]) h1
      | some te =>
        obtain ⟨tc, tv⟩ := te
        obtain ⟨e7, e8⟩ := (show q = p + tc.length ∧ qHaz (I 75) (I 76) (340 * n + p) tc from e6)
        obtain ⟨dt, hdt, hT⟩ := hok0.1 _ rfl
        replace hT : qTr tc tv dt := hT
        rw [hci, vu_n (by decide), vu_n (by decide), e1, e2, e7]
        refine x_cV3 (MCz := 0) (MSz := 0) k12032_49 v12_227_11 (hK.at rfl) (Nat.le_of_ble_eq_true rfl) (Nat.le_of_ble_eq_true rfl) (Nat.le_refl _) (Nat.le_refl _) ?_
        refine s12031T (I := va_up I 83 S) hK hR (ev := ev) hL hT hdt hn (by omega) rfl rfl rfl e8 (fun S' => ?_)
        rw [vu_t]
        refine x_ifeq (tgt := 73) k12032_52 (by decide) (fun h => ?_) (fun h => ?_)
        · simp only [qWorth, if_pos h] at hq
          refine x_inc2 (c := 1) k12032_73 rfl (Nat.le_of_ble_eq_true rfl) rfl <| x_goto (tgt := 5) k12032_76 (by decide) ?_
          rw [nI_1]
          exact ih (c + 1) S' (by omega) (fun j y hj => by rw [show c + 1 + j = c + (j + 1) from by omega]; exact hx (j + 1) y (by rw [List.getElem?_cons_succ]; exact hj)) (fun y hy => hok y (List.mem_cons_of_mem _ hy)) hq
        · simp only [qWorth, if_neg h] at hq
          exact l12032b (x2 := 0) hK hR hL hn (by omega) hx0 hok0 hq
theorem s12032 {n : Nat} {a : Int32} {cs : List qCls} (hK : qLay K sz) (hR : qRef R) (hL : qLet I ev) (hn : n < 5) (ha : a = nI n) (hc : qLawR I n cs) (hq : ∀ S, Q (some (.int (qWorth ev cs))) (K, va_up I 83 S, L, R, sz)) : X (d + 4) 0 0 12032 0 0 0 (qent (qml 12032) [.ref 73, .int a]) [] (K, I, L, R, sz) Q := by
  subst ha
  obtain ⟨h1, h2, h3, h4⟩ := hc
  refine e12032 ?_
  have := l12032 (d := d) (Q := Q) (L := L) hK hR hL hn h1 h2 cs 0 (I 83) (by omega) (fun j x hj => by rw [Nat.zero_add]; exact h3 j x hj) h4 hq
  rw [vu_id, Nat.add_zero] at this
  rw [show (90 : Int32) = nI 90 from rfl, pk_mul]
  exact this
end L30
