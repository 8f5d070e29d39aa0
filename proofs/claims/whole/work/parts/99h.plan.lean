/-! plans: the reference, the ways from a state -/
section L99ha
variable {I J : Nat → Nat → Int32} {p : qPa} {m : Nat} {x : Int32} {g : qPg} {d h d' h' : Nat → Bool} {r r' : Nat} {f f' : Nat → Nat} {w b : Nat}
theorem okS_R (v : gV g) (o : okS g d h r f) : okR d h r f := by
  obtain ⟨v1, v2, v3, -⟩ := v
  obtain ⟨o1, o2, o3, o4, o5⟩ := o
  refine ⟨fun t ht => o1 t (by omega), fun s hs => o2 s (by omega), by omega, fun s hs => ?_, fun s hs => o5 s (by omega)⟩
  by_cases c : s < gS g
  · have := o4 s c; omega
  · rw [o5 s (by omega)]; omega
theorem rE_ok (v : gV g) (o : okS g d h r f) (e : rE g d h r f d' h' r' f' w b) : okS g d' h' r' f' := by
  obtain ⟨o1, o2, o3, o4, o5⟩ := o
  rcases e with ⟨s, hs, ha, rfl, rfl, rfl, rfl, rfl, rfl⟩ | ⟨s, q, hs, hh, hq, hne, rfl, rfl, rfl, rfl, rfl, rfl⟩ | ⟨t, ht, hd, hop, hcn, rfl, rfl, rfl, rfl, rfl, rfl⟩
  · exact ⟨o1, fun j hj => by rw [vu_n (by omega)]; exact o2 j hj, o4 s hs, o4, o5⟩
  · refine ⟨o1, o2, o3, fun j hj => ?_, fun j hj => by rw [vu_n (by omega)]; exact o5 j hj⟩
    by_cases c : j = s
    · rw [c, vu_s]; exact hq
    · rw [vu_n c]; exact o4 j hj
  · refine ⟨fun j hj => by rw [vu_n (by omega)]; exact o1 j hj, fun s hs => ?_, o3, o4, o5⟩
    cases gOc g
    · exact o2 s hs
    · show (h s && _) = false
      rw [o2 s hs]; rfl
def wy (J : Nat → Nat → Int32) (i c w b : Nat) : Prop := J 94 i = nI c ∧ J 95 i = nI w ∧ J 96 i = nI b
/-- the ways so far are steps -/
def WA (g : qPg) (d h : Nat → Bool) (r : Nat) (f : Nat → Nat) (J : Nat → Nat → Int32) (n : Nat) : Prop := ∀ i, i < n → ∃ d' h' r' f' w b, rE g d h r f d' h' r' f' w b ∧ wy J i (rcd d' h' r' f') w b
def HW (J : Nat → Nat → Int32) (n c w b : Nat) : Prop := ∃ i, i < n ∧ wy J i c w b
def adW (J J' : Nat → Nat → Int32) (n c w b : Nat) : Prop := J' 94 = upd (J 94) n (nI c) ∧ J' 95 = upd (J 95) n (nI w) ∧ J' 96 = upd (J 96) n (nI b)
theorem adW_1 {J' : Nat → Nat → Int32} {n c w b : Nat} (a : adW J J' n c w b) : wy J' n c w b ∧ ∀ i c' w' b', i < n → wy J i c' w' b' → wy J' i c' w' b' := by
  obtain ⟨a1, a2, a3⟩ := a
  refine ⟨⟨by rw [a1]; unfold upd; rw [if_pos rfl], by rw [a2]; unfold upd; rw [if_pos rfl], by rw [a3]; unfold upd; rw [if_pos rfl]⟩, fun i c' w' b' hi hw => ?_⟩
  have hne : i ≠ n := by omega
  refine ⟨?_, ?_, ?_⟩
  · rw [a1]; unfold upd; rw [if_neg hne]; exact hw.1
  · rw [a2]; unfold upd; rw [if_neg hne]; exact hw.2.1
  · rw [a3]; unfold upd; rw [if_neg hne]; exact hw.2.2
theorem WA_a {J' : Nat → Nat → Int32} {n : Nat} (a : adW J J' n (rcd d' h' r' f') w b) (e : rE g d h r f d' h' r' f' w b) (H : WA g d h r f J n) : WA g d h r f J' (n + 1) := by
  intro i hi
  by_cases c : i = n
  · subst c
    exact ⟨d', h', r', f', w, b, e, (adW_1 a).1⟩
  · obtain ⟨d2, h2, r2, f2, w2, b2, e2, k2⟩ := H i (by omega)
    exact ⟨d2, h2, r2, f2, w2, b2, e2, (adW_1 a).2 _ _ _ _ (by omega) k2⟩
theorem HW_a {J' : Nat → Nat → Int32} {n c w b c' w' b' : Nat} (a : adW J J' n c w b) (H : HW J n c' w' b') : HW J' (n + 1) c' w' b' := by
  obtain ⟨i, hi, hw⟩ := H
  exact ⟨i, by omega, (adW_1 a).2 _ _ _ _ hi hw⟩
theorem HW_n {J' : Nat → Nat → Int32} {n c w b : Nat} (a : adW J J' n c w b) : HW J' (n + 1) c w b := ⟨n, Nat.lt_succ_self _, (adW_1 a).1⟩
theorem or_d : ∀ x : Fin 16, ∀ s : Fin 4, bt x.val s.val = true → (nI x.val ||| (1 <<< (nI s.val &&& 31))) = nI x.val := by decide +kernel
theorem or_up {A : Nat → Bool} {n s : Nat} (hn : n ≤ 4) (hA : ∀ t, n ≤ t → A t = false) (hs : s < n) : (nI (eB A) ||| (1 <<< (nI s &&& 31))) = nI (eB (va_up A s true)) := by
  obtain ⟨g1, g2⟩ := eB_bt hn hA
  have h16 : 2 ^ n ≤ 16 := pw2 (k := 4) hn
  cases c : A s
  · rw [br_o (by omega) (by omega) (by rw [g2]; exact c), eB_up hn hA hs c]
  · have := or_d ⟨eB A, by omega⟩ ⟨s, by omega⟩ (by show bt (eB A) s = true; rw [g2]; exact c)
    rw [← c, vu_id]; exact this
end L99ha
section L99h
variable {d : Nat} {K : qK} {I : Nat → Nat → Int32} {L : Nat → Nat → Int64} {R : Nat → Nat → Option Nat} {sz : Nat} {Q : Option Value → qMem → Prop} {p : qPa}
theorem e12078 {a : Int32} {b : Int32}  (hK : qLay K sz) (hR : qRef R)  (q1 : X d 0 0 12078 0 0 9 [some (.ref 73), some (.int a), some (.int b)] [.ref 73, .int (I 73 47), .ref 94] (K, I, L, R, sz) Q) : X d 0 0 12078 0 0 0 (qent (qml 12078) [.ref 73, .int a, .int b]) [] (K, I, L, R, sz) Q := show X _ 0 0 12078 0 0 0 [some (.ref 73), some (.int a), some (.int b)] [] _ _ from x_ald0 k12078_0 <| x_getR k12078_1 f12_79_11 (hK.at rfl) rfl (hR _ _ _ rfl) <| x_ald0 k12078_4 <| x_getI k12078_5 f12_381_11 (hK.at rfl) rfl <| x_ald0 k12078_8 <| q1
theorem f12078 {a : Int32} {b : Int32} {i : Int32} {v : Int32}  (hK : qLay K sz) (hR : qRef R) (b1 : vp_in i 32) (b2 : ∀ I1 : Nat → Nat → Int32, I1 = va_up I 94 (upd (I 94) i.toNatClampNeg v) → vp_in (I1 73 47) 32) (b3 : ∀ I1 : Nat → Nat → Int32, I1 = va_up I 94 (upd (I 94) i.toNatClampNeg v) → ∀ I3 : Nat → Nat → Int32, I3 = va_up I1 95 (upd (I1 95) ((I1 73 47).toNatClampNeg) a) → vp_in (I3 73 47) 32) (q1 : ∀ I1 : Nat → Nat → Int32, I1 = va_up I 94 (upd (I 94) i.toNatClampNeg v) → ∀ I3 : Nat → Nat → Int32, I3 = va_up I1 95 (upd (I1 95) ((I1 73 47).toNatClampNeg) a) → ∀ I5 : Nat → Nat → Int32, I5 = va_up I3 96 (upd (I3 96) ((I3 73 47).toNatClampNeg) b) → ∀ I7 : Nat → Nat → Int32, I7 = va_up I5 73 (upd (I5 73) 47 ((I5 73 47) + 1)) → Q none (K, I7, L, R, sz)) : X d 0 0 12078 0 0 12 [some (.ref 73), some (.int a), some (.int b)] [.int v, .int i, .ref 94] (K, I, L, R, sz) Q := x_iast k12078_12 (hK.at rfl) b1 <| x_nm fun I1 e2 => x_ald0 k12078_13 <| x_getR k12078_14 f12_82_11 (hK.at rfl) rfl (hR _ _ _ rfl) <| x_ald0 k12078_17 <| x_getI k12078_18 f12_381_11 (hK.at rfl) rfl <| x_ild1 k12078_21 <| x_iast k12078_22 (hK.at rfl) (b2 I1 e2) <| x_nm fun I3 e4 => x_ald0 k12078_23 <| x_getR k12078_24 f12_85_11 (hK.at rfl) rfl (hR _ _ _ rfl) <| x_ald0 k12078_27 <| x_getI k12078_28 f12_381_11 (hK.at rfl) rfl <| x_ild2 k12078_31 <| x_iast k12078_32 (hK.at rfl) (b3 I1 e2 I3 e4) <| x_nm fun I5 e6 => x_ald0 k12078_33 <| x_dup k12078_34 rfl <| x_getI k12078_35 f12_381_11 (hK.at rfl) rfl <| x_iconst (v := 1) k12078_38 rfl <| x_iadd k12078_39 <| x_putI k12078_40 f12_381_11 (Or.inl rfl) (hK.at rfl) <| x_nm fun I7 e8 => x_vret k12078_43 rfl (Nat.le_refl _) (Nat.le_refl _) <| (q1 I1 e2 I3 e4 I5 e6 I7 e8)
theorem e12079 {a : Int32} {b : Int32}  (hK : qLay K sz)  (q1 : ∀ I1 : Nat → Nat → Int32, I1 = va_up I 73 (upd (I 73) 47 0) → X d 0 0 12079 0 0 25 [some (.ref 73), some (.int a), some (.int b), some (.int (I1 73 42)), some (.int (I1 73 43)), some (.int (I1 73 41)), some (.int 0), none, none] [] (K, I1, L, R, sz) Q) : X d 0 0 12079 0 0 0 (qent (qml 12079) [.ref 73, .int a, .int b]) [] (K, I, L, R, sz) Q := show X _ 0 0 12079 0 0 0 [some (.ref 73), some (.int a), some (.int b), none, none, none, none, none, none] [] _ _ from x_ald0 k12079_0 <| x_iconst (v := 0) k12079_1 rfl <| x_putI k12079_2 f12_381_11 (Or.inl rfl) (hK.at rfl) <| x_nm fun I1 e2 => x_ald0 k12079_5 <| x_getI k12079_6 f12_372_11 (hK.at rfl) rfl <| x_ist3 k12079_9 (Nat.le_of_ble_eq_true rfl) rfl <| x_ald0 k12079_10 <| x_getI k12079_11 f12_375_11 (hK.at rfl) rfl <| x_ist4 k12079_14 (Nat.le_of_ble_eq_true rfl) rfl <| x_ald0 k12079_16 <| x_getI k12079_17 f12_369_11 (hK.at rfl) rfl <| x_ist5 k12079_20 (Nat.le_of_ble_eq_true rfl) rfl <| x_iconst (v := 0) k12079_22 rfl <| x_ist6 k12079_23 (Nat.le_of_ble_eq_true rfl) rfl <| (q1 I1 e2)
theorem g12079_25 {x1 : Int32} {x2 : Int32} {x3 : Int32} {x4 : Int32} {x5 : Int32} {x6 : Int32}  (hK : qLay K sz) (hR : qRef R) (b1 : ¬ (I 73 24) ≤ x6 → vp_in x6 3) (b2 : ¬ (I 73 24) ≤ x6 → qIn 5 x6) (q1 : (I 73 24) ≤ x6 → X (d + 2) 0 0 12079 0 0 176 [some (.ref 73), some (.int x1), some (.int x2), some (.int x3), some (.int x4), some (.int x5), some (.int 0), none, none] [] (K, I, L, R, sz) Q) (q2 : ¬ (I 73 24) ≤ x6 → ¬ I 85 (3 * (x6).toNatClampNeg + 1) = x1 → x6 = x2 → X (d + 2) 0 0 12079 0 0 104 [some (.ref 73), some (.int x1), some (.int x2), some (.int x3), some (.int x4), some (.int x5), some (.int x6), some (.int (I 93 x6.toNatClampNeg)), some (.int 0)] [] (K, I, L, R, sz) Q) (q3 : ¬ (I 73 24) ≤ x6 → ¬ I 85 (3 * (x6).toNatClampNeg + 1) = x1 → ¬ x6 = x2 → ∀ I4 : Nat → Nat → Int32, I4 = va_up I 73 (upd (I 73) 42 (I 93 x6.toNatClampNeg)) → ∀ I6 : Nat → Nat → Int32, I6 = va_up I4 73 (upd (I4 73) 43 (x4 ||| (1 <<< (x6 &&& 31)))) → X (d + 2) 0 0 12079 0 0 87 [some (.ref 73), some (.int x1), some (.int x2), some (.int x3), some (.int x4), some (.int x5), some (.int x6), some (.int (I 93 x6.toNatClampNeg)), none] [.int 1, .int ((if 0 ≤ (x3 - (I 93 x6.toNatClampNeg)) then (x3 - (I 93 x6.toNatClampNeg)) else 0 - (x3 - (I 93 x6.toNatClampNeg))) + 1), .ref 73] (K, I6, L, R, sz) Q) (q4 : ¬ (I 73 24) ≤ x6 → I 85 (3 * (x6).toNatClampNeg + 1) = x1 → X (d + 2) 0 0 12079 0 0 104 [some (.ref 73), some (.int x1), some (.int x2), some (.int x3), some (.int x4), some (.int x5), some (.int x6), some (.int (I 93 x6.toNatClampNeg)), some (.int 0)] [] (K, I, L, R, sz) Q) : X (d + 2) 0 0 12079 0 0 25 [some (.ref 73), some (.int x1), some (.int x2), some (.int x3), some (.int x4), some (.int x5), some (.int x6), none, none] [] (K, I, L, R, sz) Q := x_ild6 k12079_25 <| x_ald0 k12079_27 <| x_getI k12079_28 f12_289_11 (hK.at rfl) rfl <| x_icmpge (tgt := 173) k12079_31 (by decide) (fun h1 => x_iconst (v := 0) k12079_173 rfl <| x_ist6 k12079_174 (Nat.le_of_ble_eq_true rfl) rfl <| (q1 h1)) (fun h1 => x_ald0 k12079_34 <| x_getR k12079_35 f12_76_11 (hK.at rfl) rfl (hR _ _ _ rfl) <| x_ild6 k12079_38 <| x_iald k12079_40 (hK.at rfl) (b1 h1) <| x_ist7 k12079_41 (Nat.le_of_ble_eq_true rfl) rfl <| x_ald0 k12079_43 <| x_ild1 k12079_44 <| x_ild6 k12079_45 <| x_cV2 (MCz := 0) (MSz := 0) k12079_47 v12_324_11 (hK.at rfl) (Nat.le_of_ble_eq_true rfl) (Nat.le_of_ble_eq_true rfl) (Nat.le_refl _) (Nat.le_refl _) <| u12048 hK hR (b2 h1) (fun g2 => x_ifeqF (tgt := 101) k12079_50 (by decide) (show ¬ (1 : Int32) = 0 by decide) <| x_ild6 k12079_53 <| x_ild2 k12079_55 <| x_icmpeq (tgt := 101) k12079_56 (by decide) (fun h3 => x_iconst (v := 0) k12079_101 rfl <| x_ist8 k12079_102 (Nat.le_of_ble_eq_true rfl) rfl <| (q2 h1 g2 h3)) (fun h3 => x_ald0 k12079_59 <| x_ild7 k12079_60 <| x_putI k12079_62 f12_372_11 (Or.inl rfl) (hK.at rfl) <| x_nm fun I4 e5 => x_ald0 k12079_65 <| x_ild4 k12079_66 <| x_iconst (v := 1) k12079_68 rfl <| x_ild6 k12079_69 <| x_ishl k12079_71 <| x_ior k12079_72 <| x_putI k12079_73 f12_375_11 (Or.inl rfl) (hK.at rfl) <| x_nm fun I6 e7 => x_ald0 k12079_76 <| x_ild3 k12079_77 <| x_ild7 k12079_78 <| x_isub k12079_80 <| x_mabs k12079_81 m12_384 qs_abs qi_Math qk_abs (Nat.le_of_ble_eq_true rfl) (Nat.le_refl _) (Nat.le_refl _) <| x_iconst (v := 1) k12079_84 rfl <| x_iadd k12079_85 <| x_iconst (v := 1) k12079_86 rfl <| (q3 h1 g2 h3 I4 e5 I6 e7))) (fun g8 => x_ifeqT (tgt := 101) k12079_50 (by decide) (show (0 : Int32) = 0 by decide) <| x_iconst (v := 0) k12079_101 rfl <| x_ist8 k12079_102 (Nat.le_of_ble_eq_true rfl) rfl <| (q4 h1 g8)))
theorem g12079_176 {x1 : Int32} {x2 : Int32} {x3 : Int32} {x4 : Int32} {x5 : Int32} {x6 : Int32}  (hK : qLay K sz)  (q1 : (I 73 26) ≤ x6 → Q none (K, I, L, R, sz)) (q2 : ¬ (I 73 26) ≤ x6 → X d 0 0 12079 0 0 188 [some (.ref 73), some (.int x1), some (.int x2), some (.int x3), some (.int x4), some (.int x5), some (.int x6), none, none] [.int x6, .ref 73] (K, I, L, R, sz) Q) : X d 0 0 12079 0 0 176 [some (.ref 73), some (.int x1), some (.int x2), some (.int x3), some (.int x4), some (.int x5), some (.int x6), none, none] [] (K, I, L, R, sz) Q := x_ild6 k12079_176 <| x_ald0 k12079_178 <| x_getI k12079_179 f12_295_11 (hK.at rfl) rfl <| x_icmpge (tgt := 267) k12079_182 (by decide) (fun h1 => x_vret k12079_267 rfl (Nat.le_refl _) (Nat.le_refl _) <| (q1 h1)) (fun h1 => x_ald0 k12079_185 <| x_ild6 k12079_186 <| (q2 h1))
theorem g12079_104 {x1 : Int32} {x2 : Int32} {x3 : Int32} {x4 : Int32} {x5 : Int32} {x6 : Int32} {x7 : Int32} {x8 : Int32}  (hK : qLay K sz) (hR : qRef R) (b1 : ¬ (I 73 23) ≤ x8 → ((x4 >>> (x6 &&& 31)) &&& 1) = 1 → ¬ x8 = x7 → vp_in x6 3) (q1 : (I 73 23) ≤ x8 → X (d + 1) 0 0 12079 0 0 25 [some (.ref 73), some (.int x1), some (.int x2), some (.int x3), some (.int x4), some (.int x5), some (.int (x6 + 1)), none, none] [] (K, I, L, R, sz) Q) (q2 : ¬ (I 73 23) ≤ x8 → ((x4 >>> (x6 &&& 31)) &&& 1) = 1 → x8 = x7 → X (d + 1) 0 0 12079 0 0 104 [some (.ref 73), some (.int x1), some (.int x2), some (.int x3), some (.int x4), some (.int x5), some (.int x6), some (.int x7), some (.int (x8 + 1))] [] (K, I, L, R, sz) Q) (q3 : ¬ (I 73 23) ≤ x8 → ((x4 >>> (x6 &&& 31)) &&& 1) = 1 → ¬ x8 = x7 → ∀ I4 : Nat → Nat → Int32, I4 = va_up I 93 (upd (I 93) x6.toNatClampNeg x8) → X (d + 1) 0 0 12079 0 0 149 [some (.ref 73), some (.int x1), some (.int x2), some (.int x3), some (.int x4), some (.int x5), some (.int x6), some (.int x7), some (.int x8)] [.int 0, .int (if 0 ≤ (x8 - x7) then (x8 - x7) else 0 - (x8 - x7)), .ref 73] (K, I4, L, R, sz) Q) (q4 : ¬ (I 73 23) ≤ x8 → ¬ ((x4 >>> (x6 &&& 31)) &&& 1) = 1 → X (d + 1) 0 0 12079 0 0 25 [some (.ref 73), some (.int x1), some (.int x2), some (.int x3), some (.int x4), some (.int x5), some (.int (x6 + 1)), none, none] [] (K, I, L, R, sz) Q) : X (d + 1) 0 0 12079 0 0 104 [some (.ref 73), some (.int x1), some (.int x2), some (.int x3), some (.int x4), some (.int x5), some (.int x6), some (.int x7), some (.int x8)] [] (K, I, L, R, sz) Q := x_ild8 k12079_104 <| x_ald0 k12079_106 <| x_getI k12079_107 f12_286_11 (hK.at rfl) rfl <| x_icmpge (tgt := 167) k12079_110 (by decide) (fun h1 => x_inc6 (c := 1) k12079_167 rfl (Nat.le_of_ble_eq_true rfl) rfl <| x_goto (tgt := 25) k12079_170 (by decide) <| x_wk (ls := [some (.ref 73), some (.int x1), some (.int x2), some (.int x3), some (.int x4), some (.int x5), some (.int (x6 + 1)), none, none]) ⟨rfl, ⟨rfl, ⟨rfl, ⟨rfl, ⟨rfl, ⟨rfl, ⟨rfl, True.intro⟩⟩⟩⟩⟩⟩⟩ <| (q1 h1)) (fun h1 => x_ild4 k12079_113 <| x_ild6 k12079_115 <| x_cS2 (MCz := 0) (MSz := 0) k12079_117 s12_263 (Nat.le_of_ble_eq_true rfl) (Nat.le_of_ble_eq_true rfl) (Nat.le_refl _) (Nat.le_refl _) <| t12001 (fun g2 => x_ifeqF (tgt := 167) k12079_120 (by decide) (show ¬ (1 : Int32) = 0 by decide) <| x_ild8 k12079_123 <| x_ild7 k12079_125 <| x_icmpeq (tgt := 161) k12079_127 (by decide) (fun h3 => x_inc8 (c := 1) k12079_161 rfl (Nat.le_of_ble_eq_true rfl) rfl <| x_goto (tgt := 104) k12079_164 (by decide) <| (q2 h1 g2 h3)) (fun h3 => x_ald0 k12079_130 <| x_getR k12079_131 f12_76_11 (hK.at rfl) rfl (hR _ _ _ rfl) <| x_ild6 k12079_134 <| x_ild8 k12079_136 <| x_iast k12079_138 (hK.at rfl) (b1 h1 g2 h3) <| x_nm fun I4 e5 => x_ald0 k12079_139 <| x_ild8 k12079_140 <| x_ild7 k12079_142 <| x_isub k12079_144 <| x_mabs k12079_145 m12_384 qs_abs qi_Math qk_abs (Nat.le_of_ble_eq_true rfl) (Nat.le_refl _) (Nat.le_refl _) <| x_iconst (v := 0) k12079_148 rfl <| (q3 h1 g2 h3 I4 e5))) (fun g6 => x_ifeqT (tgt := 167) k12079_120 (by decide) (show (0 : Int32) = 0 by decide) <| x_inc6 (c := 1) k12079_167 rfl (Nat.le_of_ble_eq_true rfl) rfl <| x_goto (tgt := 25) k12079_170 (by decide) <| x_wk (ls := [some (.ref 73), some (.int x1), some (.int x2), some (.int x3), some (.int x4), some (.int x5), some (.int (x6 + 1)), none, none]) ⟨rfl, ⟨rfl, ⟨rfl, ⟨rfl, ⟨rfl, ⟨rfl, ⟨rfl, True.intro⟩⟩⟩⟩⟩⟩⟩ <| (q4 h1 g6)))
theorem f12079a {a : Int32} {b : Int32} {c : Int32} {e : Int32} {f : Int32} {x6 : Int32} {x7 : Int32}  (hK : qLay K sz)  (q1 : ∀ I1 : Nat → Nat → Int32, I1 = va_up I 73 (upd (I 73) 42 c) → ∀ I3 : Nat → Nat → Int32, I3 = va_up I1 73 (upd (I1 73) 43 e) → X d 0 0 12079 0 0 104 [some (.ref 73), some (.int a), some (.int b), some (.int c), some (.int e), some (.int f), some (.int x6), some (.int x7), some (.int 0)] [] (K, I3, L, R, sz) Q) : X d 0 0 12079 0 0 90 [some (.ref 73), some (.int a), some (.int b), some (.int c), some (.int e), some (.int f), some (.int x6), some (.int x7), none] [] (K, I, L, R, sz) Q := x_ald0 k12079_90 <| x_ild3 k12079_91 <| x_putI k12079_92 f12_372_11 (Or.inl rfl) (hK.at rfl) <| x_nm fun I1 e2 => x_ald0 k12079_95 <| x_ild4 k12079_96 <| x_putI k12079_98 f12_375_11 (Or.inl rfl) (hK.at rfl) <| x_nm fun I3 e4 => x_iconst (v := 0) k12079_101 rfl <| x_ist8 k12079_102 (Nat.le_of_ble_eq_true rfl) rfl <| (q1 I1 e2 I3 e4)
theorem f12079b {a : Int32} {b : Int32} {c : Int32} {e : Int32} {f : Int32} {x6 : Int32} {x7 : Int32} {x8 : Int32}  (hK : qLay K sz) (hR : qRef R) (b1 : vp_in x6 3) (q1 : ∀ I1 : Nat → Nat → Int32, I1 = va_up I 93 (upd (I 93) x6.toNatClampNeg x7) → X d 0 0 12079 0 0 104 [some (.ref 73), some (.int a), some (.int b), some (.int c), some (.int e), some (.int f), some (.int x6), some (.int x7), some (.int (x8 + 1))] [] (K, I1, L, R, sz) Q) : X d 0 0 12079 0 0 152 [some (.ref 73), some (.int a), some (.int b), some (.int c), some (.int e), some (.int f), some (.int x6), some (.int x7), some (.int x8)] [] (K, I, L, R, sz) Q := x_ald0 k12079_152 <| x_getR k12079_153 f12_76_11 (hK.at rfl) rfl (hR _ _ _ rfl) <| x_ild6 k12079_156 <| x_ild7 k12079_158 <| x_iast k12079_160 (hK.at rfl) b1 <| x_nm fun I1 e2 => x_inc8 (c := 1) k12079_161 rfl (Nat.le_of_ble_eq_true rfl) rfl <| x_goto (tgt := 104) k12079_164 (by decide) <| (q1 I1 e2)
theorem f12079c {a : Int32} {b : Int32} {c : Int32} {e : Int32} {f : Int32} {x6 : Int32} {v : Int32}  (hK : qLay K sz) (hR : qRef R) (b1 : ¬ v = 0 → ∀ I2 : Nat → Nat → Int32, I2 = va_up I 73 (upd (I 73) 41 (f ||| (1 <<< (x6 &&& 31)))) → ¬ (I2 73 29) = 1 → ∀ I5 : Nat → Nat → Int32, I5 = va_up I2 73 (upd (I2 73) 43 e) → vp_in (18 + 4 * x6 + 2) 34) (b2 : ¬ v = 0 → ∀ I2 : Nat → Nat → Int32, I2 = va_up I 73 (upd (I 73) 41 (f ||| (1 <<< (x6 &&& 31)))) → (I2 73 29) = 1 → ∀ I7 : Nat → Nat → Int32, I7 = va_up I2 73 (upd (I2 73) 43 (e &&& (v ^^^ (-1)))) → vp_in (18 + 4 * x6 + 2) 34) (q1 : v = 0 → X (d + 1) 0 0 12079 0 0 176 [some (.ref 73), some (.int a), some (.int b), some (.int c), some (.int e), some (.int f), some (.int (x6 + 1)), some (.int v), none] [] (K, I, L, R, sz) Q) (q2 : ¬ v = 0 → ∀ I2 : Nat → Nat → Int32, I2 = va_up I 73 (upd (I 73) 41 (f ||| (1 <<< (x6 &&& 31)))) → ¬ (I2 73 29) = 1 → ∀ I5 : Nat → Nat → Int32, I5 = va_up I2 73 (upd (I2 73) 43 e) → X (d + 1) 0 0 12079 0 0 246 [some (.ref 73), some (.int a), some (.int b), some (.int c), some (.int e), some (.int f), some (.int x6), some (.int v), none] [.int 0, .int (I5 85 ((18 + 4 * x6 + 2).toNatClampNeg)), .ref 73] (K, I5, L, R, sz) Q) (q3 : ¬ v = 0 → ∀ I2 : Nat → Nat → Int32, I2 = va_up I 73 (upd (I 73) 41 (f ||| (1 <<< (x6 &&& 31)))) → (I2 73 29) = 1 → ∀ I7 : Nat → Nat → Int32, I7 = va_up I2 73 (upd (I2 73) 43 (e &&& (v ^^^ (-1)))) → X (d + 1) 0 0 12079 0 0 246 [some (.ref 73), some (.int a), some (.int b), some (.int c), some (.int e), some (.int f), some (.int x6), some (.int v), none] [.int 0, .int (I7 85 ((18 + 4 * x6 + 2).toNatClampNeg)), .ref 73] (K, I7, L, R, sz) Q) : X (d + 1) 0 0 12079 0 0 191 [some (.ref 73), some (.int a), some (.int b), some (.int c), some (.int e), some (.int f), some (.int x6), none, none] [.int v] (K, I, L, R, sz) Q := x_ist7 k12079_191 (Nat.le_of_ble_eq_true rfl) rfl <| x_ild7 k12079_193 <| x_ifeq (tgt := 261) k12079_195 (by decide) (fun h1 => x_inc6 (c := 1) k12079_261 rfl (Nat.le_of_ble_eq_true rfl) rfl <| x_goto (tgt := 176) k12079_264 (by decide) <| (q1 h1)) (fun h1 => x_ald0 k12079_198 <| x_ild5 k12079_199 <| x_iconst (v := 1) k12079_201 rfl <| x_ild6 k12079_202 <| x_ishl k12079_204 <| x_ior k12079_205 <| x_putI k12079_206 f12_369_11 (Or.inl rfl) (hK.at rfl) <| x_nm fun I2 e3 => x_ald0 k12079_209 <| x_ald0 k12079_210 <| x_getI k12079_211 f12_321_11 (hK.at rfl) rfl <| x_iconst (v := 1) k12079_214 rfl <| x_icmpne (tgt := 228) k12079_215 (by decide) (fun h4 => x_ild4 k12079_228 <| x_putI k12079_230 f12_375_11 (Or.inl rfl) (hK.at rfl) <| x_nm fun I5 e6 => x_ald0 k12079_233 <| x_ald0 k12079_234 <| x_getR k12079_235 f12_43_11 (hK.at rfl) rfl (hR _ _ _ rfl) <| x_ild6 k12079_238 <| x_iconst (v := 2) k12079_240 rfl <| x_cS2 (MCz := 0) (MSz := 0) k12079_241 s12_251 (Nat.le_of_ble_eq_true rfl) (Nat.le_of_ble_eq_true rfl) (Nat.le_refl _) (Nat.le_refl _) <| t12035 (x_iald k12079_244 (hK.at rfl) (b1 h1 I2 e3 h4 I5 e6) <| x_iconst (v := 0) k12079_245 rfl <| (q2 h1 I2 e3 h4 I5 e6))) (fun h4 => x_ild4 k12079_218 <| x_ild7 k12079_220 <| x_iconst (v := (-1)) k12079_222 rfl <| x_ixor k12079_223 <| x_iand k12079_224 <| x_goto (tgt := 230) k12079_225 (by decide) <| x_putI k12079_230 f12_375_11 (Or.inl rfl) (hK.at rfl) <| x_nm fun I7 e8 => x_ald0 k12079_233 <| x_ald0 k12079_234 <| x_getR k12079_235 f12_43_11 (hK.at rfl) rfl (hR _ _ _ rfl) <| x_ild6 k12079_238 <| x_iconst (v := 2) k12079_240 rfl <| x_cS2 (MCz := 0) (MSz := 0) k12079_241 s12_251 (Nat.le_of_ble_eq_true rfl) (Nat.le_of_ble_eq_true rfl) (Nat.le_refl _) (Nat.le_refl _) <| t12035 (x_iald k12079_244 (hK.at rfl) (b2 h1 I2 e3 h4 I7 e8) <| x_iconst (v := 0) k12079_245 rfl <| (q3 h1 I2 e3 h4 I7 e8))))
theorem f12079d {a : Int32} {b : Int32} {c : Int32} {e : Int32} {f : Int32} {x6 : Int32} {x7 : Int32}  (hK : qLay K sz)  (q1 : ∀ I1 : Nat → Nat → Int32, I1 = va_up I 73 (upd (I 73) 41 f) → ∀ I3 : Nat → Nat → Int32, I3 = va_up I1 73 (upd (I1 73) 43 e) → X d 0 0 12079 0 0 176 [some (.ref 73), some (.int a), some (.int b), some (.int c), some (.int e), some (.int f), some (.int (x6 + 1)), some (.int x7), none] [] (K, I3, L, R, sz) Q) : X d 0 0 12079 0 0 249 [some (.ref 73), some (.int a), some (.int b), some (.int c), some (.int e), some (.int f), some (.int x6), some (.int x7), none] [] (K, I, L, R, sz) Q := x_ald0 k12079_249 <| x_ild5 k12079_250 <| x_putI k12079_252 f12_369_11 (Or.inl rfl) (hK.at rfl) <| x_nm fun I1 e2 => x_ald0 k12079_255 <| x_ild4 k12079_256 <| x_putI k12079_258 f12_375_11 (Or.inl rfl) (hK.at rfl) <| x_nm fun I3 e4 => x_inc6 (c := 1) k12079_261 rfl (Nat.le_of_ble_eq_true rfl) rfl <| x_goto (tgt := 176) k12079_264 (by decide) <| (q1 I1 e2 I3 e4)
theorem s12078 {dd h : Nat → Bool} {r n : Nat} {f : Nat → Nat} {a b : Int32} (hK : qLay K sz) (hR : qRef R) (o : okR dd h r f) (st : rSt I dd h r f) (h47 : I 73 47 = nI n) (hn : n < 32) (hq : ∀ J, qFr (fun j k => (94 ≤ j ∧ j ≤ 96) ∨ (j = 73 ∧ k = 47)) I J → J 73 47 = nI (n + 1) → J 94 = upd (I 94) n (nI (rcd dd h r f)) → J 95 = upd (I 95) n a → J 96 = upd (I 96) n b → Q none (K, J, L, R, sz)) : X (d + 2) 0 0 12078 0 0 0 (qent (qml 12078) [.ref 73, .int a, .int b]) [] (K, I, L, R, sz) Q := by
  have ec : (nI n).toNatClampNeg = n := nI_c (by omega)
  refine e12078 (d := d + 2) hK hR ?_
  refine x_cV0 (MCz := 0) (MSz := 0) k12078_9 v12_378_11 (hK.at rfl) (Nat.le_of_ble_eq_true rfl) (Nat.le_of_ble_eq_true rfl) (Nat.le_refl _) (Nat.le_refl _) <| s12074 (d := d) hK hR o st ?_
  rw [h47]
  have v32 : vp_in (nI n) 32 := vI hn (by omega)
  refine f12078 (d := d + 2) hK hR v32 (fun A hA => by rw [hA, vu_n (by decide), h47]; exact v32) (fun A hA B hB => by rw [hB, vu_n (by decide), hA, vu_n (by decide), h47]; exact v32) (fun A hA B hB C hC D hD => ?_)
  have A47 : A 73 47 = nI n := by rw [hA, vu_n (by decide)]; exact h47
  rw [ec] at hA
  rw [A47, ec] at hB
  have B47 : B 73 47 = nI n := by rw [hB, vu_n (by decide)]; exact A47
  rw [B47, ec] at hC
  have C47 : C 73 47 = nI n := by rw [hC, vu_n (by decide)]; exact B47
  rw [C47, nI_1] at hD
  refine hq D ?_ (by rw [hD, vu_s]; rfl) (by rw [hD, vu_n (by decide), hC, vu_n (by decide), hB, vu_n (by decide), hA, vu_s]) (by rw [hD, vu_n (by decide), hC, vu_n (by decide), hB, vu_s, hA, vu_n (by decide)]) (by rw [hD, vu_n (by decide), hC, vu_s, hB, vu_n (by decide), hA, vu_n (by decide)])
  rw [hD]; refine qFr.trans ?_ (qFr.up1 (Or.inr ⟨rfl, rfl⟩))
  rw [hC]; refine qFr.trans ?_ (qFr.up (fun k => Or.inl (by omega)))
  rw [hB]; refine qFr.trans ?_ (qFr.up (fun k => Or.inl (by omega)))
  rw [hA]; exact qFr.up (fun k => Or.inl (by omega))
theorem s12079 {m : Nat} {x : Int32} {dd h : Nat → Bool} {r : Nat} {f : Nat → Nat} (hK : qLay K sz) (hR : qRef R) (cI : CI I p) (rI : RI I p) (hf : fewH p) (hm : m < pM p) (o : okS (gQ I p m x) dd h r f) (st : rSt I dd h r f)
    (hq : ∀ J n, qFr pO I J → n < 32 → J 73 47 = nI n → WA (gQ I p m x) dd h r f J n → (∀ d' h' r' f' w b, rE (gQ I p m x) dd h r f d' h' r' f' w b → HW J n (rcd d' h' r' f') w b) → Q none (K, J, L, R, sz)) : X (d + 3) 0 0 12079 0 0 0 (qent (qml 12079) [.ref 73, .int (nI m), .int x]) [] (K, I, L, R, sz) Q := by
  have v := gQ_v (x := x) cI hf hm
  have hf0 := hf
  obtain ⟨f1, f2⟩ := hf
  have w3 := cI.w3
  have w5 := cI.w5
  have w4 : pT p ≤ 4 := cI.1.2.1.2.2.2
  have oR := okS_R v o
  have lS : I 73 24 = nI (pS p) := rI.mS cI
  have lR : I 73 23 = nI (pR p) := by rw [rI.1.1]; exact cI.1.1.1
  have lT : I 73 26 = nI (pT p) := by rw [rI.1.2.2.2]; exact cI.1.1.2.2.2
  have l29 : I 73 29 = I 0 8 := rI.2.2.2.2.1.2.2.1
  have p73 : ∀ J, qFr pO I J → ∀ k, ¬ (41 ≤ k ∧ k ≤ 43) → k ≠ 47 → J 73 k = I 73 k := fun J hJ k h1 h2 => hJ 73 k (fun q => by unfold pO pU at q; omega)
  have p85 : ∀ J, qFr pO I J → J 85 = I 85 := fun J hJ => hJ.row (fun k q => by unfold pO pU at q; omega)
  have c73 : ∀ {J J' : Nat → Nat → Int32} {c : Nat} {w : Int32}, (41 ≤ c ∧ c ≤ 43) → qFr pO I J → J' = va_up J 73 (upd (J 73) c w) → qFr pO I J' := fun hc h1 e => by rw [e]; exact h1.trans (qFr.up1 (Or.inl (Or.inr ⟨rfl, hc.1, hc.2⟩)))
  have c93 : ∀ {J J' : Nat → Nat → Int32} {g : Nat → Int32}, qFr pO I J → J' = va_up J 93 g → qFr pO I J' := fun h1 e => by rw [e]; exact h1.trans (qFr.up (fun k => Or.inl (Or.inl rfl)))
  have cway : ∀ {J J' : Nat → Nat → Int32}, qFr pO I J → qFr (fun j k => (94 ≤ j ∧ j ≤ 96) ∨ (j = 73 ∧ k = 47)) J J' → qFr pO I J' := fun h1 h2 => h1.trans (h2.mono (fun j k q => Or.inr q))
  have hgS : gS (gQ I p m x) = pS p := rfl
  have hgR : gR (gQ I p m x) = pR p := rfl
  have hfs5 : ∀ s, s < pS p → f s < 5 := fun s hs => by have := o.2.2.2.1 s hs; rw [hgR] at this; omega
  have hr5 : r < 5 := by have := o.2.2.1; rw [hgR] at this; omega
  have h8 : eB h < 8 := (eB_bt (A := h) (n := 3) (by omega) (fun s hs => o.2.1 s (by show pS p ≤ s; omega))).1
  have hbh : bt (eB h) = h := (eB_bt (A := h) (n := 3) (by omega) (fun s hs => o.2.1 s (by show pS p ≤ s; omega))).2
  -- the tasks
  have h176 : ∀ (k t : Nat), t + k = pT p → ∀ J n, qFr pO I J → rSt J dd h r f → n ≤ 18 + t → J 73 47 = nI n → WA (gQ I p m x) dd h r f J n → (∀ s, s < pS p → gA (gQ I p m x) s = true → HW J n (rcd dd (va_up h s true) (f s) f) (ds r (f s) + 1) 1) → (∀ s z, s < pS p → h s = true → z < pR p → z ≠ f s → HW J n (rcd dd h r (va_up f s z)) (ds z (f s)) 0) → (∀ t', t' < t → dd t' = false → gOp (gQ I p m x) dd t' = true → cb (lowS (elT (gQ I p m x) h f t') (gTh (gQ I p m x) t')) (pS p) = gTh (gQ I p m x) t' → HW J n (rcd (va_up dd t' true) (if gOc (gQ I p m x) then fun s => h s && !lowS (elT (gQ I p m x) h f t') (gTh (gQ I p m x) t') s else h) r f) (gTm (gQ I p m x) t') 0) → X (d + 3) 0 0 12079 0 0 176 [some (.ref 73), some (.int (nI m)), some (.int x), some (.int (nI r)), some (.int (nI (eB h))), some (.int (nI (eB dd))), some (.int (nI t)), none, none] [] (K, J, L, R, sz) Q := by
    intro k
    induction k with
    | zero =>
      intro t ht J n hJ sJ hn h47 hA hT1 hT2 hT3
      have hle : J 73 26 ≤ nI t := by rw [p73 J hJ 26 (by omega) (by omega), lT]; exact nI_le (by omega) (by omega)
      refine g12079_176 hK (fun _ => hq J n hJ (by omega) h47 hA (fun d' h' r' f' w b e => ?_)) (fun q => absurd hle q)
      rcases e with ⟨s, hs, ha, rfl, rfl, rfl, rfl, rfl, rfl⟩ | ⟨s, z, hs, hh, hz, hne, rfl, rfl, rfl, rfl, rfl, rfl⟩ | ⟨t', ht', hd', hop', hcn', rfl, rfl, rfl, rfl, rfl, rfl⟩
      · exact hT1 s hs ha
      · exact hT2 s z hs hh hz hne
      · exact hT3 t' (by have e : gN (gQ I p m x) = pT p := rfl; omega) hd' hop' hcn'
    | succ k ih =>
      intro t ht J n hJ sJ hn h47 hA hT1 hT2 hT3
      have hnl : ¬ J 73 26 ≤ nI t := by rw [p73 J hJ 26 (by omega) (by omega), lT]; exact nI_ge (by omega) (by omega)
      have htN : t < pT p := by omega
      have hJQ : qFr scQ I J := hJ.mono (fun _ _ => pO_Q)
      have hgJ : gQ J p m x = gQ I p m x := gQ_q hJQ (by omega) w5
      have cJ : CI J p := CI_fr hJQ (CI_jud hJQ (by rw [hJ.row (j := 51) (fun k q => by unfold pO pU at q; omega)]) (hJ.row (fun k q => by unfold pO pU at q; omega)) cI) cI
      obtain ⟨q0, q1, q2, q3, q4, q5, q6, q7⟩ := @gQ_t I p m x cI t htN
      have hadv : ∀ J' n', qFr pO I J' → rSt J' dd h r f → n' ≤ 18 + (t + 1) → J' 73 47 = nI n' → WA (gQ I p m x) dd h r f J' n' → (∀ c w b, HW J n c w b → HW J' n' c w b) → (dd t = false → gOp (gQ I p m x) dd t = true → cb (lowS (elT (gQ I p m x) h f t) (gTh (gQ I p m x) t)) (pS p) = gTh (gQ I p m x) t → HW J' n' (rcd (va_up dd t true) (if gOc (gQ I p m x) then fun s => h s && !lowS (elT (gQ I p m x) h f t) (gTh (gQ I p m x) t) s else h) r f) (gTm (gQ I p m x) t) 0) → X (d + 3) 0 0 12079 0 0 176 [some (.ref 73), some (.int (nI m)), some (.int x), some (.int (nI r)), some (.int (nI (eB h))), some (.int (nI (eB dd))), some (.int (nI (t + 1))), none, none] [] (K, J', L, R, sz) Q := fun J' n' a1 a2 a3 a4 a5 a6 a7 =>
        ih (t + 1) (by omega) J' n' a1 a2 a3 a4 a5 (fun s hs ha => a6 _ _ _ (hT1 s hs ha)) (fun s z hs hh hz hne => a6 _ _ _ (hT2 s z hs hh hz hne)) (fun t' ht' u1 u2 u3 => by
          by_cases c : t' = t
          · subst c; exact a7 u1 u2 u3
          · exact a6 _ _ _ (hT3 t' (by omega) u1 u2 u3))
      refine g12079_176 hK (fun q => absurd q hnl) (fun _ => ?_)
      refine x_cV1 (MCz := 0) (MSz := 0) k12079_188 v12_390_11 (hK.at rfl) (Nat.le_of_ble_eq_true rfl) (Nat.le_of_ble_eq_true rfl) (Nat.le_refl _) (Nat.le_refl _) <| s12077 (d := d + 1) (m := m) (x := x) hK hR cJ (RI_fr hJQ rI) hf0 (by rw [hgJ]; exact o) sJ htN ?_
      rw [hgJ]
      obtain ⟨E, hE⟩ : ∃ E, E = lowS (elT (gQ I p m x) h f t) (gTh (gQ I p m x) t) := ⟨_, rfl⟩
      have hEz : ∀ s, 3 ≤ s → E s = false := fun s hs => by
        have : h s = false := o.2.1 s (by show pS p ≤ s; omega)
        rw [hE]; unfold lowS elT; rw [this]; rfl
      obtain ⟨b1, b2'⟩ := eB_bt (n := 3) (by omega) hEz
      by_cases hc : (dd t = false ∧ gOp (gQ I p m x) dd t = true) ∧ cb E (pS p) = gTh (gQ I p m x) t
      · have hhf : hfN (gQ I p m x) dd h f t = eB E := by unfold hfN; rw [← hE]; exact if_pos hc
        have hne0 : eB E ≠ 0 := fun z => by
          rw [z] at b2'
          have hz : ∀ s, s < pS p → E s = false := fun s _ => by rw [← b2']; unfold bt; rw [Nat.zero_div]; rfl
          have := cb_cong (B := fun _ => false) (pS p) hz
          have e0 : cb (fun _ => false) (pS p) = 0 := sm_0 _
          have := hc.2
          omega
        have hsub : ∀ s, bt (eB E) s = true → bt (eB h) s = true := fun s hs => by
          rw [b2', hE] at hs
          unfold lowS elT at hs
          rw [Bool.and_eq_true, Bool.and_eq_true] at hs
          rw [hbh]; exact hs.1.1
        obtain ⟨z1, z2, z3, z4⟩ := sub_d (S := 3) (by omega) b1 (show eB h < 2 ^ 3 from h8) hsub
        rw [hhf]
        have hod : (nI (eB dd) ||| (1 <<< (nI t &&& 31))) = nI (eB (va_up dd t true)) := or_up (n := 4) (by omega) (fun s hs => o.1 s (by show pT p ≤ s; omega)) (by omega)
        have i2 : ∀ B : Nat → Nat → Int32, B 85 = I 85 → B 85 ((18 + 4 * nI t + 2 : Int32).toNatClampNeg) = nI (gTm (gQ I p m x) t) := fun B hB => by
          rw [hB, show (18 + 4 * nI t + 2 : Int32) = nI (18 + 4 * t + 2) from e18 t 2, nI_c (by omega), rI.2.1.2.2 t 2 (by omega) (by omega) (by omega), q5]
        have v2 : vp_in (18 + 4 * nI t + 2) 34 := by rw [show (18 + 4 * nI t + 2 : Int32) = nI (18 + 4 * t + 2) from e18 t 2]; exact vI (by omega) (by omega)
        obtain ⟨h2, hh2⟩ : ∃ h2 : Nat → Bool, h2 = if gOc (gQ I p m x) then fun s => h s && !E s else h := ⟨_, rfl⟩
        have edge : rE (gQ I p m x) dd h r f (va_up dd t true) h2 r f (gTm (gQ I p m x) t) 0 := Or.inr (Or.inr ⟨t, htN, hc.1.1, hc.1.2, by show cb (lowS (elT (gQ I p m x) h f t) (gTh (gQ I p m x) t)) (pS p) = _; rw [← hE]; exact hc.2, rfl, by rw [hh2, hE]; rfl, rfl, rfl, rfl, rfl⟩)
        have ok2 := okS_R v (rE_ok v o edge)
        -- the way of the task
        have hgo : ∀ B C : Nat → Nat → Int32, B = va_up J 73 (upd (J 73) 41 (nI (eB (va_up dd t true)))) → C = va_up B 73 (upd (B 73) 43 (nI (eB h2))) → X (d + 3) 0 0 12079 0 0 246 [some (.ref 73), some (.int (nI m)), some (.int x), some (.int (nI r)), some (.int (nI (eB h))), some (.int (nI (eB dd))), some (.int (nI t)), some (.int (nI (eB E))), none] [.int 0, .int (C 85 ((18 + 4 * nI t + 2 : Int32).toNatClampNeg)), .ref 73] (K, C, L, R, sz) Q := fun B C hB hC => by
          have B73 : B 73 = upd (J 73) 41 (nI (eB (va_up dd t true))) := by rw [hB, vu_s]
          have C73 : C 73 = upd (B 73) 43 (nI (eB h2)) := by rw [hC, vu_s]
          have Cr : ∀ j, j ≠ 73 → C j = J j := fun j hj => by rw [hC, vu_n hj, hB, vu_n hj]
          have stC : rSt C (va_up dd t true) h2 r f := by
            refine ⟨by rw [C73, B73]; rfl, by rw [C73, B73]; exact sJ.2.1, by rw [C73]; rfl, fun s hs => by rw [Cr 93 (by decide)]; exact sJ.2.2.2 s hs⟩
          have C47 : C 73 47 = nI n := by rw [C73, B73]; exact h47
          have hC' : qFr pO I C := c73 (by omega) (c73 (by omega) hJ hB) hC
          rw [i2 C (by rw [Cr 85 (by decide)]; exact p85 J hJ)]
          refine x_cV2 (MCz := 0) (MSz := 0) k12079_246 v12_387_11 (hK.at rfl) (Nat.le_of_ble_eq_true rfl) (Nat.le_of_ble_eq_true rfl) (Nat.le_refl _) (Nat.le_refl _) <| s12078 (d := d) hK hR ok2 stC C47 (by omega) (fun D hD d47 d94 d95 d96 => ?_)
          refine f12079d hK (fun F hF G hG => ?_)
          rw [nI_1]
          have F73 : F 73 = upd (D 73) 41 (nI (eB dd)) := by rw [hF, vu_s]
          have G73 : G 73 = upd (F 73) 43 (nI (eB h)) := by rw [hG, vu_s]
          have Gr : ∀ j, j ≠ 73 → G j = D j := fun j hj => by rw [hG, vu_n hj, hF, vu_n hj]
          have hD' : qFr pO I D := cway hC' hD
          have hG' : qFr pO I G := c73 (by omega) (c73 (by omega) hD' hF) hG
          have stG : rSt G dd h r f := by
            refine ⟨by rw [G73, F73]; rfl, ?_, by rw [G73]; rfl, fun s hs => ?_⟩
            · rw [G73, F73]; show D 73 42 = nI r
              rw [hD 73 42 (by omega)]; exact stC.2.1
            · rw [Gr 93 (by decide), hD 93 s (by omega)]; exact stC.2.2.2 s hs
          have aW : adW J G n (rcd (va_up dd t true) h2 r f) (gTm (gQ I p m x) t) 0 := by
            refine ⟨?_, ?_, ?_⟩
            · rw [Gr 94 (by decide), d94, Cr 94 (by decide)]
            · rw [Gr 95 (by decide), d95, Cr 95 (by decide)]
            · rw [Gr 96 (by decide), d96, Cr 96 (by decide)]; rfl
          refine x_wk2 (hadv G (n + 1) hG' stG (by omega) (by rw [G73, F73]; exact d47) (WA_a aW edge hA) (fun c w b H => HW_a aW H) (fun _ _ _ => ?_)) ⟨rfl, rfl, rfl, rfl, rfl, rfl, rfl, True.intro⟩
          rw [← hE, ← hh2]
          exact HW_n aW
        refine f12079c (d := d + 2) hK hR (fun _ B hB _ C hC => v2) (fun _ B hB _ C hC => v2) (fun z => absurd z (nI_ne0 (by omega) (by omega))) (fun _ B hB c C hC => ?_) (fun _ B hB c C hC => ?_)
        · rw [hod] at hB
          have B29 : B 73 29 = I 0 8 := by rw [hB, vu_s]; show J 73 29 = _; rw [p73 J hJ 29 (by omega) (by omega), l29]
          have hoc : gOc (gQ I p m x) = false := by show decide (I 0 8 = 1) = false; rw [B29] at c; exact decide_eq_false c
          rw [hoc, if_neg Bool.false_ne_true] at hh2
          exact hgo B C hB (by rw [hC, hh2])
        · rw [hod] at hB
          have B29 : B 73 29 = I 0 8 := by rw [hB, vu_s]; show J 73 29 = _; rw [p73 J hJ 29 (by omega) (by omega), l29]
          have hoc : gOc (gQ I p m x) = true := by show decide (I 0 8 = 1) = true; rw [B29] at c; exact decide_eq_true c
          rw [hoc, if_pos rfl] at hh2
          refine hgo B C hB ?_
          rw [hC, z2]
          have : eB h2 = eB h - eB E := by
            have e2 : h2 = bt (eB h - eB E) := by rw [z4, hh2, b2', hbh]
            rw [e2, eB_b (n := 3) (by omega) z3]
          rw [this]
      · have hhf : hfN (gQ I p m x) dd h f t = 0 := by unfold hfN; rw [← hE]; exact if_neg hc
        rw [hhf]
        refine f12079c (d := d + 2) hK hR (fun z => absurd rfl z) (fun z => absurd rfl z) (fun _ => ?_) (fun z => absurd rfl z) (fun z => absurd rfl z)
        rw [nI_1]
        refine x_wk2 (hadv J n hJ sJ (by omega) h47 hA (fun _ _ _ H => H) (fun u1 u2 u3 => absurd ⟨⟨u1, u2⟩, by rw [hE]; exact u3⟩ hc)) ⟨rfl, rfl, rfl, rfl, rfl, rfl, rfl, True.intro⟩
  -- the servants
  have hgA : ∀ s, s < pS p → (gA (gQ I p m x) s = true ↔ ¬ nI s = x ∧ ¬ I (24 + s) 1 = nI m) := fun s hs => by
    have e : gA (gQ I p m x) s = (!decide (nI s = x) && !decide (I (24 + s) 1 = nI m)) := by
      show (decide (s < 5) && (!decide (nI s = x) && mayI I m s)) = _
      rw [decide_eq_true (show s < 5 by omega)]; rfl
    rw [e]
    simp only [Bool.and_eq_true, Bool.not_eq_true', decide_eq_false_iff_not]
  have h25 : ∀ (k s : Nat), s + k = pS p → ∀ J n, qFr pO I J → rSt J dd h r f → n ≤ 6 * s → J 73 47 = nI n → WA (gQ I p m x) dd h r f J n → (∀ s', s' < s → gA (gQ I p m x) s' = true → HW J n (rcd dd (va_up h s' true) (f s') f) (ds r (f s') + 1) 1) → (∀ s' z, s' < s → h s' = true → z < pR p → z ≠ f s' → HW J n (rcd dd h r (va_up f s' z)) (ds z (f s')) 0) → X (d + 3) 0 0 12079 0 0 25 [some (.ref 73), some (.int (nI m)), some (.int x), some (.int (nI r)), some (.int (nI (eB h))), some (.int (nI (eB dd))), some (.int (nI s)), none, none] [] (K, J, L, R, sz) Q := by
    intro k
    induction k with
    | zero =>
      intro s hs J n hJ sJ hn h47 hA hT1 hT2
      have hle : J 73 24 ≤ nI s := by rw [p73 J hJ 24 (by omega) (by omega), lS]; exact nI_le (by omega) (by omega)
      have : s = pS p := by omega
      subst this
      refine g12079_25 (d := d + 1) hK hR (fun q => absurd hle q) (fun q => absurd hle q) (fun _ => ?_) (fun q => absurd hle q) (fun q => absurd hle q) (fun q => absurd hle q)
      exact h176 (pT p) 0 (by omega) J n hJ sJ (by omega) h47 hA hT1 hT2 (fun t' ht' => absurd ht' (Nat.not_lt_zero _))
    | succ k ih =>
      intro s hs J n hJ sJ hn h47 hA hT1 hT2
      have hnl : ¬ J 73 24 ≤ nI s := by rw [p73 J hJ 24 (by omega) (by omega), lS]; exact nI_ge (by omega) (by omega)
      have ec : (nI s).toNatClampNeg = s := nI_c (by omega)
      have hsS : s < pS p := by omega
      have hfs := hfs5 s hsS
      -- his walks
      have h104 : ∀ (k' z : Nat), z + k' = pR p → ∀ J n, qFr pO I J → rSt J dd h r f → n ≤ 6 * s + 1 + z → J 73 47 = nI n → WA (gQ I p m x) dd h r f J n → (∀ s', s' < s + 1 → gA (gQ I p m x) s' = true → HW J n (rcd dd (va_up h s' true) (f s') f) (ds r (f s') + 1) 1) → (∀ s' z', s' < s → h s' = true → z' < pR p → z' ≠ f s' → HW J n (rcd dd h r (va_up f s' z')) (ds z' (f s')) 0) → (∀ z', z' < z → h s = true → z' ≠ f s → HW J n (rcd dd h r (va_up f s z')) (ds z' (f s)) 0) → X (d + 3) 0 0 12079 0 0 104 [some (.ref 73), some (.int (nI m)), some (.int x), some (.int (nI r)), some (.int (nI (eB h))), some (.int (nI (eB dd))), some (.int (nI s)), some (.int (nI (f s))), some (.int (nI z))] [] (K, J, L, R, sz) Q := by
        intro k'
        induction k' with
        | zero =>
          intro z hz J n hJ sJ hn h47 hA hT1 hT2 hT3
          have hle : J 73 23 ≤ nI z := by rw [p73 J hJ 23 (by omega) (by omega), lR]; exact nI_le (by omega) (by omega)
          refine g12079_104 (d := d + 2) hK hR (fun q => absurd hle q) (fun _ => ?_) (fun q => absurd hle q) (fun q => absurd hle q) (fun q => absurd hle q)
          rw [nI_1]
          refine ih (s + 1) (by omega) J n hJ sJ (by omega) h47 hA hT1 (fun s' z' hs' hh hz' hne => ?_)
          by_cases c : s' = s
          · subst c; exact hT3 z' (by omega) hh hne
          · exact hT2 s' z' (by omega) hh hz' hne
        | succ k' ih' =>
          intro z hz J n hJ sJ hn h47 hA hT1 hT2 hT3
          have hnl : ¬ J 73 23 ≤ nI z := by rw [p73 J hJ 23 (by omega) (by omega), lR]; exact nI_ge (by omega) (by omega)
          have hb : ((nI (eB h) >>> (nI s &&& 31)) &&& 1) = 1 ↔ h s = true := by rw [br_1 (by omega) (by omega), hbh]
          have hzf : nI z = nI (f s) ↔ z = f s := nI_eq (by omega) (by omega)
          refine g12079_104 (d := d + 2) hK hR (fun _ _ _ => vI (by omega) (by omega)) (fun q => absurd q hnl) (fun _ c1 c2 => ?_) (fun _ c1 c2 B hB => ?_) (fun _ c1 => ?_)
          · rw [hzf] at c2
            rw [nI_1]
            refine ih' (z + 1) (by omega) J n hJ sJ (by omega) h47 hA hT1 hT2 (fun z' hz' hh hne => ?_)
            exact hT3 z' (by omega) hh hne
          · rw [hb] at c1
            rw [hzf] at c2
            rw [ec] at hB
            have edge : rE (gQ I p m x) dd h r f dd h r (va_up f s z) (ds z (f s)) 0 := Or.inr (Or.inl ⟨s, z, hsS, c1, by show z < pR p; omega, c2, rfl, rfl, rfl, rfl, rfl, rfl⟩)
            have ok2 := okS_R v (rE_ok v o edge)
            have Br : ∀ j, j ≠ 93 → B j = J j := fun j hj => by rw [hB, vu_n hj]
            have stB : rSt B dd h r (va_up f s z) := by
              refine ⟨by rw [Br 73 (by decide)]; exact sJ.1, by rw [Br 73 (by decide)]; exact sJ.2.1, by rw [Br 73 (by decide)]; exact sJ.2.2.1, fun s' hs' => ?_⟩
              rw [hB, vu_s]; unfold upd
              by_cases c : s' = s
              · rw [if_pos c, c, vu_s]
              · rw [if_neg c, vu_n c]; exact sJ.2.2.2 s' hs'
            have hBf : qFr pO I B := c93 hJ hB
            rw [absN (by omega) (by omega)]
            refine x_cV2 (MCz := 0) (MSz := 0) k12079_149 v12_387_11 (hK.at rfl) (Nat.le_of_ble_eq_true rfl) (Nat.le_of_ble_eq_true rfl) (Nat.le_refl _) (Nat.le_refl _) <| s12078 (d := d) hK hR ok2 stB (by rw [Br 73 (by decide)]; exact h47) (by omega) (fun D hD d47 d94 d95 d96 => ?_)
            refine f12079b hK hR (vI (by omega) (by omega)) (fun F hF => ?_)
            rw [ec] at hF
            rw [nI_1]
            have Fr : ∀ j, j ≠ 93 → F j = D j := fun j hj => by rw [hF, vu_n hj]
            have hF' : qFr pO I F := c93 (cway hBf hD) hF
            have stF : rSt F dd h r f := by
              refine ⟨?_, ?_, ?_, fun s' hs' => ?_⟩
              · rw [Fr 73 (by decide), hD 73 41 (by omega)]; exact stB.1
              · rw [Fr 73 (by decide), hD 73 42 (by omega)]; exact stB.2.1
              · rw [Fr 73 (by decide), hD 73 43 (by omega)]; exact stB.2.2.1
              · rw [hF, vu_s]; unfold upd
                by_cases c : s' = s
                · rw [if_pos c, c]
                · rw [if_neg c, hD 93 s' (by omega), stB.2.2.2 s' hs', vu_n c]
            have aW : adW J F n (rcd dd h r (va_up f s z)) (ds z (f s)) 0 := by
              refine ⟨?_, ?_, ?_⟩
              · rw [Fr 94 (by decide), d94, Br 94 (by decide)]
              · rw [Fr 95 (by decide), d95, Br 95 (by decide)]; rfl
              · rw [Fr 96 (by decide), d96, Br 96 (by decide)]; rfl
            refine ih' (z + 1) (by omega) F (n + 1) hF' stF (by omega) (by rw [Fr 73 (by decide)]; exact d47) (WA_a aW edge hA) (fun s' hs' ha => HW_a aW (hT1 s' hs' ha)) (fun s' z' hs' hh hz' hne => HW_a aW (hT2 s' z' hs' hh hz' hne)) (fun z' hz' hh hne => ?_)
            by_cases c : z' = z
            · subst c; exact HW_n aW
            · exact HW_a aW (hT3 z' (by omega) hh hne)
          · rw [hb] at c1
            rw [nI_1]
            refine ih (s + 1) (by omega) J n hJ sJ (by omega) h47 hA hT1 (fun s' z' hs' hh hz' hne => ?_)
            by_cases c : s' = s
            · subst c; exact absurd hh c1
            · exact hT2 s' z' (by omega) hh hz' hne
      have r1 : J 85 (3 * (nI s).toNatClampNeg + 1) = I (24 + s) 1 := by
        rw [ec, p85 J hJ]; exact rI.2.1.1 s 1 (by omega) (by omega) (by omega)
      have e93 : J 93 (nI s).toNatClampNeg = nI (f s) := by rw [ec]; exact sJ.2.2.2 s (by omega)
      have hskip : gA (gQ I p m x) s ≠ true → X (d + 3) 0 0 12079 0 0 104 [some (.ref 73), some (.int (nI m)), some (.int x), some (.int (nI r)), some (.int (nI (eB h))), some (.int (nI (eB dd))), some (.int (nI s)), some (.int (nI (f s))), some (.int 0)] [] (K, J, L, R, sz) Q := fun hn' =>
        h104 (pR p) 0 (by omega) J n hJ sJ (by omega) h47 hA (fun s' hs' ha => by
          by_cases c : s' = s
          · subst c; exact absurd ha hn'
          · exact hT1 s' (by omega) ha) hT2 (fun z' hz' => absurd hz' (Nat.not_lt_zero _))
      refine g12079_25 (d := d + 1) hK hR (fun _ => vI (by omega) (by omega)) (fun _ => ⟨s, by omega, rfl⟩) (fun q => absurd q hnl) (fun _ c1 c2 => ?_) (fun _ c1 c2 B hB C hC => ?_) (fun _ c1 => ?_)
      · rw [e93]
        exact hskip (fun ha => ((hgA s hsS).mp ha).1 c2)
      · rw [r1] at c1
        rw [e93] at hB
        rw [or_up (n := 3) (by omega) (fun s hs => o.2.1 s (by show pS p ≤ s; omega)) (by omega)] at hC
        have ha : gA (gQ I p m x) s = true := (hgA s hsS).mpr ⟨c2, c1⟩
        have edge : rE (gQ I p m x) dd h r f dd (va_up h s true) (f s) f (ds r (f s) + 1) 1 := Or.inl ⟨s, hsS, ha, rfl, rfl, rfl, rfl, rfl, rfl⟩
        have ok2 := okS_R v (rE_ok v o edge)
        have B73 : B 73 = upd (J 73) 42 (nI (f s)) := by rw [hB, vu_s]
        have C73 : C 73 = upd (B 73) 43 (nI (eB (va_up h s true))) := by rw [hC, vu_s]
        have Cr : ∀ j, j ≠ 73 → C j = J j := fun j hj => by rw [hC, vu_n hj, hB, vu_n hj]
        have stC : rSt C dd (va_up h s true) (f s) f := ⟨by rw [C73, B73]; exact sJ.1, by rw [C73, B73]; rfl, by rw [C73]; rfl, fun s' hs' => by rw [Cr 93 (by decide)]; exact sJ.2.2.2 s' hs'⟩
        have C47 : C 73 47 = nI n := by rw [C73, B73]; exact h47
        have hC' : qFr pO I C := c73 (by omega) (c73 (by omega) hJ hB) hC
        rw [e93, absN (by omega) (by omega), nI_1]
        refine x_cV2 (MCz := 0) (MSz := 0) k12079_87 v12_387_11 (hK.at rfl) (Nat.le_of_ble_eq_true rfl) (Nat.le_of_ble_eq_true rfl) (Nat.le_refl _) (Nat.le_refl _) <| s12078 (d := d) hK hR ok2 stC C47 (by omega) (fun D hD d47 d94 d95 d96 => ?_)
        refine f12079a hK (fun F hF G hG => ?_)
        have F73 : F 73 = upd (D 73) 42 (nI r) := by rw [hF, vu_s]
        have G73 : G 73 = upd (F 73) 43 (nI (eB h)) := by rw [hG, vu_s]
        have Gr : ∀ j, j ≠ 73 → G j = D j := fun j hj => by rw [hG, vu_n hj, hF, vu_n hj]
        have hG' : qFr pO I G := c73 (by omega) (c73 (by omega) (cway hC' hD) hF) hG
        have stG : rSt G dd h r f := by
          refine ⟨?_, by rw [G73, F73]; rfl, by rw [G73]; rfl, fun s' hs' => ?_⟩
          · rw [G73, F73]; show D 73 41 = _
            rw [hD 73 41 (by omega)]; exact stC.1
          · rw [Gr 93 (by decide), hD 93 s' (by omega)]; exact stC.2.2.2 s' hs'
        have aW : adW J G n (rcd dd (va_up h s true) (f s) f) (ds r (f s) + 1) 1 := by
          refine ⟨?_, ?_, ?_⟩
          · rw [Gr 94 (by decide), d94, Cr 94 (by decide)]
          · rw [Gr 95 (by decide), d95, Cr 95 (by decide)]; rfl
          · rw [Gr 96 (by decide), d96, Cr 96 (by decide)]; rfl
        refine h104 (pR p) 0 (by omega) G (n + 1) hG' stG (by omega) (by rw [G73, F73]; exact d47) (WA_a aW edge hA) (fun s' hs' ha' => ?_) (fun s' z' hs' hh hz' hne => HW_a aW (hT2 s' z' hs' hh hz' hne)) (fun z' hz' => absurd hz' (Nat.not_lt_zero _))
        by_cases c : s' = s
        · subst c; exact HW_n aW
        · exact HW_a aW (hT1 s' (by omega) ha')
      · rw [r1] at c1
        rw [e93]
        exact hskip (fun ha => ((hgA s hsS).mp ha).2 c1)
  refine e12079 (d := d + 3) hK (fun B hB => ?_)
  have B73 : B 73 = upd (I 73) 47 0 := by rw [hB, vu_s]
  have b42 : B 73 42 = nI r := by rw [B73]; exact st.2.1
  have b43 : B 73 43 = nI (eB h) := by rw [B73]; exact st.2.2.1
  have b41 : B 73 41 = nI (eB dd) := by rw [B73]; exact st.1
  rw [b42, b43, b41]
  refine h25 (pS p) 0 (by omega) B 0 ?_ ⟨b41, b42, b43, fun s hs => by rw [hB, vu_n (by decide)]; exact st.2.2.2 s hs⟩ (by omega) (by rw [B73]; rfl) (fun i hi => absurd hi (Nat.not_lt_zero _)) (fun s' hs' => absurd hs' (Nat.not_lt_zero _)) (fun s' z hs' => absurd hs' (Nat.not_lt_zero _))
  rw [hB]; exact qFr.up1 (Or.inr (Or.inr ⟨rfl, rfl⟩))

end L99h
