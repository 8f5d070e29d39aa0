/-! rivals: the reference's answer -/
section L92a
variable {I J : Nat → Nat → Int32} {p : qPa} {m1 m2 : Nat}
def pRv (j k : Nat) : Prop := j = 97 ∨ j = 98 ∨ (j = 73 ∧ k = 37)
theorem pRv_Q {j k : Nat} (h : pRv j k) : scQ j k := fun q => by unfold pRv at h; unfold kpQ at q; omega
def qRv (I J : Nat → Nat → Int32) : Prop := qFr pRv I J
theorem qRv.row (h : qRv I J) {j : Nat} (h1 : j ≠ 97) (h2 : j ≠ 98) (h3 : j ≠ 73) : J j = I j := qFr.row h (fun k q => by unfold pRv at q; omega)
theorem qRv.z (h : qRv I J) {k : Nat} (hk : k ≠ 37) : J 73 k = I 73 k := h 73 k (fun q => by unfold pRv at q; omega)
theorem qRv.fr (h : qRv I J) : qFr scQ I J := h.mono (fun _ _ => pRv_Q)
theorem qRv.af (h : qRv I J) (c : CI I p) : qAf I p J := ⟨h.fr, CI_fr h.fr (CI_jud h.fr (by rw [h.row (by decide) (by decide) (by decide)]) (h.row (by decide) (by decide) (by decide)) c) c⟩
theorem qRv.pw (h : qRv I J) (c : iPw I) : iPw J := by unfold iPw; rw [h.row (j := 99) (by decide) (by decide) (by decide)]; exact c
theorem qRv.u7 (h : qRv I J) {f : Nat → Int32} : qRv I (va_up J 97 f) := qFr.trans h (qFr.up (fun k => Or.inl rfl))
theorem qRv.u8 (h : qRv I J) {f : Nat → Int32} : qRv I (va_up J 98 f) := qFr.trans h (qFr.up (fun k => Or.inr (Or.inl rfl)))
theorem qRv.bm (h : qRv I J) {v : Int32} : qRv I (bm J v) := qFr.trans h (qFr.up1 (Or.inr (Or.inr ⟨rfl, rfl⟩)))
def tR (g : Nat → Int32) (p : qPa) (V : Nat → Nat → Nat → Int32) : Prop := ∀ a b o, a < pR p → b < pR p → o < 3 ^ pS p → g (sp a b o) = V a b o
theorem rvS_c (h : ∀ s, s < 5 → J (24 + s) = I (24 + s)) (w5 : pS p ≤ 5) {f : Bool} {V V' : Nat → Nat → Nat → Int32} (hV : ∀ a b o, a < pR p → b < pR p → o < 3 ^ pS p → V a b o = V' a b o) {a b o : Nat} (ha : a < pR p) (hb : b < pR p) (ho : o < 3 ^ pS p) : rvS J p m1 m2 f V a b o = rvS I p m1 m2 f V' a b o := by
  have hd : ∀ {a : Int32} {m r : Nat} {v0 vU vD : Int32} {vT : Nat → Int32}, dBest J p a m r v0 vU vD vT = dBest I p a m r v0 vU vD vT := by
    intro a m r v0 vU vD vT
    unfold dBest
    have : ∀ q n, n ≤ pS p → bsT a (dTh J m r) vT q n = bsT a (dTh I m r) vT q n := by
      intro q n
      induction n with
      | zero => intro _; rfl
      | succ n ih =>
        intro g
        have e : dTh J m r n = dTh I m r n := by unfold dTh mayI; rw [h n (by omega)]
        rw [bsT, bsT, ih (by omega), e]
    exact this _ _ (Nat.le_refl _)
  unfold rvS
  cases f
  · rw [if_neg Bool.false_ne_true, if_neg Bool.false_ne_true, hd]
    exact dB_c (hV a b o ha hb ho) (fun q => hV a (b + 1) o ha q ho) (fun q => hV a (b - 1) o ha (by omega) ho) (fun s hs => hV a b _ ha hb (thk_lt w5 hs ho (by decide)))
  · rw [if_pos rfl, if_pos rfl, hd]
    exact dB_c (hV a b o ha hb ho) (fun q => hV (a + 1) b o q hb ho) (fun q => hV (a - 1) b o (by omega) hb ho) (fun s hs => hV a b _ ha hb (thk_lt w5 hs ho (by decide)))
end L92a
section L92
variable {d : Nat} {K : qK} {I : Nat → Nat → Int32} {L : Nat → Nat → Int64} {R : Nat → Nat → Option Nat} {sz : Nat} {Q : Option Value → qMem → Prop} {p : qPa}
theorem e12090 {a : Int32} {b : Int32} {c : Int32} {e : Int32}  (hK : qLay K sz) (cI : CI I p) (rI : RI I p)  (q1 : qIn (pM p) a → qIn (pM p) b → a = b → Q (some (.int (-1000000))) (K, I, L, R, sz)) (q2 : qIn (pM p) a → qIn (pM p) b → ¬ a = b → 1 ≤ c → c ≤ 8 → 0 ≤ e → e ≤ 1 → X (d + 2) 0 0 12090 0 0 51 [some (.ref 73), some (.int a), some (.int b), some (.int c), some (.int e), some (.int 1), some (.int 0), none, none, none, none, none] [] (K, I, L, R, sz) Q) (q3 : qIn (pM p) a → qIn (pM p) b → ¬ a = b → 1 ≤ c → c ≤ 8 → ¬ (0 ≤ e ∧ e ≤ 1) → Q (some (.int (-1000000))) (K, I, L, R, sz)) (q4 : qIn (pM p) a → qIn (pM p) b → ¬ a = b → ¬ (1 ≤ c ∧ c ≤ 8) → Q (some (.int (-1000000))) (K, I, L, R, sz)) (q5 : qIn (pM p) a → ¬ qIn (pM p) b → Q (some (.int (-1000000))) (K, I, L, R, sz)) (q6 : ¬ qIn (pM p) a → Q (some (.int (-1000000))) (K, I, L, R, sz)) : X (d + 2) 0 0 12090 0 0 0 (qent (qml 12090) [.ref 73, .int a, .int b, .int c, .int e]) [] (K, I, L, R, sz) Q := show X _ 0 0 12090 0 0 0 [some (.ref 73), some (.int a), some (.int b), some (.int c), some (.int e), none, none, none, none, none, none, none] [] _ _ from x_ald0 k12090_0 <| x_ild1 k12090_1 <| x_cV1 (MCz := 0) (MSz := 0) k12090_2 v12_314_11 (hK.at rfl) (Nat.le_of_ble_eq_true rfl) (Nat.le_of_ble_eq_true rfl) (Nat.le_refl _) (Nat.le_refl _) <| u12047 hK cI rI (fun g1 => x_ifeqF (tgt := 41) k12090_5 (by decide) (show ¬ (1 : Int32) = 0 by decide) <| x_ald0 k12090_8 <| x_ild2 k12090_9 <| x_cV1 (MCz := 0) (MSz := 0) k12090_10 v12_314_11 (hK.at rfl) (Nat.le_of_ble_eq_true rfl) (Nat.le_of_ble_eq_true rfl) (Nat.le_refl _) (Nat.le_refl _) <| u12047 hK cI rI (fun g2 => x_ifeqF (tgt := 41) k12090_13 (by decide) (show ¬ (1 : Int32) = 0 by decide) <| x_ild1 k12090_16 <| x_ild2 k12090_17 <| x_icmpeq (tgt := 41) k12090_18 (by decide) (fun h3 => x_ldcW k12090_41 c12_317 <| x_iret k12090_44 rfl (Nat.le_refl _) (Nat.le_refl _) <| (q1 g1 g2 h3)) (fun h3 => x_ild3 k12090_21 <| x_iconst (v := 1) k12090_22 rfl <| x_bipush (v := 8) k12090_23 rfl <| x_cS3 (MCz := 0) (MSz := 0) k12090_25 s12_231 (Nat.le_of_ble_eq_true rfl) (Nat.le_of_ble_eq_true rfl) (Nat.le_refl _) (Nat.le_refl _) <| t12000 (fun g4 g5 => x_ifeqF (tgt := 41) k12090_28 (by decide) (show ¬ (1 : Int32) = 0 by decide) <| x_ild4 k12090_31 <| x_iconst (v := 0) k12090_33 rfl <| x_iconst (v := 1) k12090_34 rfl <| x_cS3 (MCz := 0) (MSz := 0) k12090_35 s12_231 (Nat.le_of_ble_eq_true rfl) (Nat.le_of_ble_eq_true rfl) (Nat.le_refl _) (Nat.le_refl _) <| t12000 (fun g6 g7 => x_ifneT (tgt := 45) k12090_38 (by decide) (show ¬ (1 : Int32) = 0 by decide) <| x_iconst (v := 1) k12090_45 rfl <| x_ist5 k12090_46 (Nat.le_of_ble_eq_true rfl) rfl <| x_iconst (v := 0) k12090_48 rfl <| x_ist6 k12090_49 (Nat.le_of_ble_eq_true rfl) rfl <| (q2 g1 g2 h3 g4 g5 g6 g7)) (fun g8 => x_ifneF (tgt := 45) k12090_38 (by decide) (show (0 : Int32) = 0 by decide) <| x_ldcW k12090_41 c12_317 <| x_iret k12090_44 rfl (Nat.le_refl _) (Nat.le_refl _) <| (q3 g1 g2 h3 g4 g5 g8))) (fun g9 => x_ifeqT (tgt := 41) k12090_28 (by decide) (show (0 : Int32) = 0 by decide) <| x_ldcW k12090_41 c12_317 <| x_iret k12090_44 rfl (Nat.le_refl _) (Nat.le_refl _) <| (q4 g1 g2 h3 g9)))) (fun g10 => x_ifeqT (tgt := 41) k12090_13 (by decide) (show (0 : Int32) = 0 by decide) <| x_ldcW k12090_41 c12_317 <| x_iret k12090_44 rfl (Nat.le_refl _) (Nat.le_refl _) <| (q5 g1 g10))) (fun g11 => x_ifeqT (tgt := 41) k12090_5 (by decide) (show (0 : Int32) = 0 by decide) <| x_ldcW k12090_41 c12_317 <| x_iret k12090_44 rfl (Nat.le_refl _) (Nat.le_refl _) <| (q6 g11))
theorem g12090_51 {x1 : Int32} {x2 : Int32} {x3 : Int32} {x4 : Int32} {x5 : Int32} {x6 : Int32}  (hK : qLay K sz)  (q1 : (I 73 24) ≤ x6 → X d 0 0 12090 0 0 75 [some (.ref 73), some (.int x1), some (.int x2), some (.int x3), some (.int x4), some (.int x5), some (.int 0), none, none, none, none, none] [] (K, I, L, R, sz) Q) (q2 : ¬ (I 73 24) ≤ x6 → X d 0 0 12090 0 0 51 [some (.ref 73), some (.int x1), some (.int x2), some (.int x3), some (.int x4), some (.int (x5 * 3)), some (.int (x6 + 1)), none, none, none, none, none] [] (K, I, L, R, sz) Q) : X d 0 0 12090 0 0 51 [some (.ref 73), some (.int x1), some (.int x2), some (.int x3), some (.int x4), some (.int x5), some (.int x6), none, none, none, none, none] [] (K, I, L, R, sz) Q := x_ild6 k12090_51 <| x_ald0 k12090_53 <| x_getI k12090_54 f12_289_11 (hK.at rfl) rfl <| x_icmpge (tgt := 72) k12090_57 (by decide) (fun h1 => x_iconst (v := 0) k12090_72 rfl <| x_ist6 k12090_73 (Nat.le_of_ble_eq_true rfl) rfl <| (q1 h1)) (fun h1 => x_ild5 k12090_60 <| x_iconst (v := 3) k12090_62 rfl <| x_imul k12090_63 <| x_ist5 k12090_64 (Nat.le_of_ble_eq_true rfl) rfl <| x_inc6 (c := 1) k12090_66 rfl (Nat.le_of_ble_eq_true rfl) rfl <| x_goto (tgt := 51) k12090_69 (by decide) <| (q2 h1))
theorem g12090_75 {x1 : Int32} {x2 : Int32} {x3 : Int32} {x4 : Int32} {x5 : Int32} {x6 : Int32}  (hK : qLay K sz)  (q1 : (I 73 23) ≤ x6 → X d 0 0 12090 0 0 208 [some (.ref 73), some (.int x1), some (.int x2), some (.int x3), some (.int x4), some (.int x5), some (.int ((2 * x3) - 1)), none, none, none, none, none] [] (K, I, L, R, sz) Q) (q2 : ¬ (I 73 23) ≤ x6 → X d 0 0 12090 0 0 87 [some (.ref 73), some (.int x1), some (.int x2), some (.int x3), some (.int x4), some (.int x5), some (.int x6), some (.int 0), none, none, none, none] [] (K, I, L, R, sz) Q) : X d 0 0 12090 0 0 75 [some (.ref 73), some (.int x1), some (.int x2), some (.int x3), some (.int x4), some (.int x5), some (.int x6), none, none, none, none, none] [] (K, I, L, R, sz) Q := x_ild6 k12090_75 <| x_ald0 k12090_77 <| x_getI k12090_78 f12_286_11 (hK.at rfl) rfl <| x_icmpge (tgt := 201) k12090_81 (by decide) (fun h1 => x_iconst (v := 2) k12090_201 rfl <| x_ild3 k12090_202 <| x_imul k12090_203 <| x_iconst (v := 1) k12090_204 rfl <| x_isub k12090_205 <| x_ist6 k12090_206 (Nat.le_of_ble_eq_true rfl) rfl <| (q1 h1)) (fun h1 => x_iconst (v := 0) k12090_84 rfl <| x_ist7 k12090_85 (Nat.le_of_ble_eq_true rfl) rfl <| (q2 h1))
theorem g12090_208 {x1 : Int32} {x2 : Int32} {x3 : Int32} {x4 : Int32} {x5 : Int32} {x6 : Int32}  (hK : qLay K sz) (hR : qRef R) (b1 : x6 ≤ 0 → vp_in (15 + x1) 34) (b2 : x6 ≤ 0 → vp_in (15 + x2) 34) (q1 : x6 ≤ 0 → X (d + 1) 0 0 12090 0 0 376 [some (.ref 73), some (.int x1), some (.int x2), some (.int x3), some (.int x4), some (.int x5), some (.int x6), none, none, none, none, none] [.int 0, .int (I 85 ((15 + x2).toNatClampNeg)), .int (I 85 ((15 + x1).toNatClampNeg)), .int 1, .int x1, .ref 73] (K, I, L, R, sz) Q) (q2 : ¬ x6 ≤ 0 → ¬ (x6 - x6 / 2 * 2) = 0 → X (d + 1) 0 0 12090 0 0 230 [some (.ref 73), some (.int x1), some (.int x2), some (.int x3), some (.int x4), some (.int x5), some (.int x6), some (.int 0), some (.int 0), none, none, none] [] (K, I, L, R, sz) Q) (q3 : ¬ x6 ≤ 0 → (x6 - x6 / 2 * 2) = 0 → X (d + 1) 0 0 12090 0 0 230 [some (.ref 73), some (.int x1), some (.int x2), some (.int x3), some (.int x4), some (.int x5), some (.int x6), some (.int 1), some (.int 0), none, none, none] [] (K, I, L, R, sz) Q) : X (d + 1) 0 0 12090 0 0 208 [some (.ref 73), some (.int x1), some (.int x2), some (.int x3), some (.int x4), some (.int x5), some (.int x6), none, none, none, none, none] [] (K, I, L, R, sz) Q := x_ild6 k12090_208 <| x_ifle (tgt := 354) k12090_210 (by decide) (fun h1 => x_ald0 k12090_354 <| x_ild1 k12090_355 <| x_iconst (v := 1) k12090_356 rfl <| x_ald0 k12090_357 <| x_getR k12090_358 f12_43_11 (hK.at rfl) rfl (hR _ _ _ rfl) <| x_ild1 k12090_361 <| x_cS1 (MCz := 0) (MSz := 0) k12090_362 s12_245 (Nat.le_of_ble_eq_true rfl) (Nat.le_of_ble_eq_true rfl) (Nat.le_refl _) (Nat.le_refl _) <| t12034 (x_iald k12090_365 (hK.at rfl) (b1 h1) <| x_ald0 k12090_366 <| x_getR k12090_367 f12_43_11 (hK.at rfl) rfl (hR _ _ _ rfl) <| x_ild2 k12090_370 <| x_cS1 (MCz := 0) (MSz := 0) k12090_371 s12_245 (Nat.le_of_ble_eq_true rfl) (Nat.le_of_ble_eq_true rfl) (Nat.le_refl _) (Nat.le_refl _) <| t12034 (x_iald k12090_374 (hK.at rfl) (b2 h1) <| x_iconst (v := 0) k12090_375 rfl <| (q1 h1)))) (fun h1 => x_ild6 k12090_213 <| x_iconst (v := 2) k12090_215 rfl <| x_irem k12090_216 (by decide) <| x_ifne (tgt := 224) k12090_217 (by decide) (fun h2 => x_iconst (v := 0) k12090_224 rfl <| x_ist7 k12090_225 (Nat.le_of_ble_eq_true rfl) rfl <| x_iconst (v := 0) k12090_227 rfl <| x_ist8 k12090_228 (Nat.le_of_ble_eq_true rfl) rfl <| (q2 h1 h2)) (fun h2 => x_iconst (v := 1) k12090_220 rfl <| x_goto (tgt := 225) k12090_221 (by decide) <| x_ist7 k12090_225 (Nat.le_of_ble_eq_true rfl) rfl <| x_iconst (v := 0) k12090_227 rfl <| x_ist8 k12090_228 (Nat.le_of_ble_eq_true rfl) rfl <| (q3 h1 h2)))
theorem g12090_87 {x1 : Int32} {x2 : Int32} {x3 : Int32} {x4 : Int32} {x5 : Int32} {x6 : Int32} {x7 : Int32}  (hK : qLay K sz)  (q1 : (I 73 23) ≤ x7 → X d 0 0 12090 0 0 75 [some (.ref 73), some (.int x1), some (.int x2), some (.int x3), some (.int x4), some (.int x5), some (.int (x6 + 1)), none, none, none, none, none] [] (K, I, L, R, sz) Q) (q2 : ¬ (I 73 23) ≤ x7 → X d 0 0 12090 0 0 99 [some (.ref 73), some (.int x1), some (.int x2), some (.int x3), some (.int x4), some (.int x5), some (.int x6), some (.int x7), some (.int 0), none, none, none] [] (K, I, L, R, sz) Q) : X d 0 0 12090 0 0 87 [some (.ref 73), some (.int x1), some (.int x2), some (.int x3), some (.int x4), some (.int x5), some (.int x6), some (.int x7), none, none, none, none] [] (K, I, L, R, sz) Q := x_ild7 k12090_87 <| x_ald0 k12090_89 <| x_getI k12090_90 f12_286_11 (hK.at rfl) rfl <| x_icmpge (tgt := 195) k12090_93 (by decide) (fun h1 => x_inc6 (c := 1) k12090_195 rfl (Nat.le_of_ble_eq_true rfl) rfl <| x_goto (tgt := 75) k12090_198 (by decide) <| x_wk (ls := [some (.ref 73), some (.int x1), some (.int x2), some (.int x3), some (.int x4), some (.int x5), some (.int (x6 + 1)), none, none, none, none, none]) ⟨rfl, ⟨rfl, ⟨rfl, ⟨rfl, ⟨rfl, ⟨rfl, ⟨rfl, True.intro⟩⟩⟩⟩⟩⟩⟩ <| (q1 h1)) (fun h1 => x_iconst (v := 0) k12090_96 rfl <| x_ist8 k12090_97 (Nat.le_of_ble_eq_true rfl) rfl <| (q2 h1))
theorem g12090_230 {x1 : Int32} {x2 : Int32} {x3 : Int32} {x4 : Int32} {x5 : Int32} {x6 : Int32} {x7 : Int32} {x8 : Int32}  (hK : qLay K sz)  (q1 : (I 73 23) ≤ x8 → X d 0 0 12090 0 0 318 [some (.ref 73), some (.int x1), some (.int x2), some (.int x3), some (.int x4), some (.int x5), some (.int x6), some (.int x7), some (.int 0), none, none, none] [] (K, I, L, R, sz) Q) (q2 : ¬ (I 73 23) ≤ x8 → X d 0 0 12090 0 0 242 [some (.ref 73), some (.int x1), some (.int x2), some (.int x3), some (.int x4), some (.int x5), some (.int x6), some (.int x7), some (.int x8), some (.int 0), none, none] [] (K, I, L, R, sz) Q) : X d 0 0 12090 0 0 230 [some (.ref 73), some (.int x1), some (.int x2), some (.int x3), some (.int x4), some (.int x5), some (.int x6), some (.int x7), some (.int x8), none, none, none] [] (K, I, L, R, sz) Q := x_ild8 k12090_230 <| x_ald0 k12090_232 <| x_getI k12090_233 f12_286_11 (hK.at rfl) rfl <| x_icmpge (tgt := 315) k12090_236 (by decide) (fun h1 => x_iconst (v := 0) k12090_315 rfl <| x_ist8 k12090_316 (Nat.le_of_ble_eq_true rfl) rfl <| (q1 h1)) (fun h1 => x_iconst (v := 0) k12090_239 rfl <| x_ist9 k12090_240 (Nat.le_of_ble_eq_true rfl) rfl <| (q2 h1))
theorem g12090_99 {x1 : Int32} {x2 : Int32} {x3 : Int32} {x4 : Int32} {x5 : Int32} {x6 : Int32} {x7 : Int32} {x8 : Int32}    (q1 : x5 ≤ x8 → X d 0 0 12090 0 0 87 [some (.ref 73), some (.int x1), some (.int x2), some (.int x3), some (.int x4), some (.int x5), some (.int x6), some (.int (x7 + 1)), none, none, none, none] [] (K, I, L, R, sz) Q) (q2 : ¬ x5 ≤ x8 → X d 0 0 12090 0 0 112 [some (.ref 73), some (.int x1), some (.int x2), some (.int x3), some (.int x4), some (.int x5), some (.int x6), some (.int x7), some (.int x8), some (.int 0), some (.int 0), none] [] (K, I, L, R, sz) Q) : X d 0 0 12090 0 0 99 [some (.ref 73), some (.int x1), some (.int x2), some (.int x3), some (.int x4), some (.int x5), some (.int x6), some (.int x7), some (.int x8), none, none, none] [] (K, I, L, R, sz) Q := x_ild8 k12090_99 <| x_ild5 k12090_101 <| x_icmpge (tgt := 189) k12090_103 (by decide) (fun h1 => x_inc7 (c := 1) k12090_189 rfl (Nat.le_of_ble_eq_true rfl) rfl <| x_goto (tgt := 87) k12090_192 (by decide) <| x_wk (ls := [some (.ref 73), some (.int x1), some (.int x2), some (.int x3), some (.int x4), some (.int x5), some (.int x6), some (.int (x7 + 1)), none, none, none, none]) ⟨rfl, ⟨rfl, ⟨rfl, ⟨rfl, ⟨rfl, ⟨rfl, ⟨rfl, ⟨rfl, True.intro⟩⟩⟩⟩⟩⟩⟩⟩ <| (q1 h1)) (fun h1 => x_iconst (v := 0) k12090_106 rfl <| x_ist9 k12090_107 (Nat.le_of_ble_eq_true rfl) rfl <| x_iconst (v := 0) k12090_109 rfl <| x_ist10 k12090_110 (Nat.le_of_ble_eq_true rfl) rfl <| (q2 h1))
theorem g12090_318 {x1 : Int32} {x2 : Int32} {x3 : Int32} {x4 : Int32} {x5 : Int32} {x6 : Int32} {x7 : Int32} {x8 : Int32}  (hK : qLay K sz) (hR : qRef R) (b1 : ¬ (Int32.ofNat 8748) ≤ x8 → vp_in x8 8748) (q1 : (Int32.ofNat 8748) ≤ x8 → X d 0 0 12090 0 0 208 [some (.ref 73), some (.int x1), some (.int x2), some (.int x3), some (.int x4), some (.int x5), some (.int (x6 + (-1))), none, none, none, none, none] [] (K, I, L, R, sz) Q) (q2 : ¬ (Int32.ofNat 8748) ≤ x8 → ∀ I2 : Nat → Nat → Int32, I2 = va_up I 98 (upd (I 98) x8.toNatClampNeg (I 97 x8.toNatClampNeg)) → X d 0 0 12090 0 0 318 [some (.ref 73), some (.int x1), some (.int x2), some (.int x3), some (.int x4), some (.int x5), some (.int x6), some (.int x7), some (.int (x8 + 1)), none, none, none] [] (K, I2, L, R, sz) Q) : X d 0 0 12090 0 0 318 [some (.ref 73), some (.int x1), some (.int x2), some (.int x3), some (.int x4), some (.int x5), some (.int x6), some (.int x7), some (.int x8), none, none, none] [] (K, I, L, R, sz) Q := x_ild8 k12090_318 <| x_ald0 k12090_320 <| x_getR k12090_321 f12_91_11 (hK.at rfl) rfl (hR _ _ _ rfl) <| x_alenI k12090_324 (hK.at rfl) <| x_icmpge (tgt := 348) k12090_325 (by decide) (fun h1 => x_inc6 (c := (-1)) k12090_348 rfl (Nat.le_of_ble_eq_true rfl) rfl <| x_goto (tgt := 208) k12090_351 (by decide) <| x_wk (ls := [some (.ref 73), some (.int x1), some (.int x2), some (.int x3), some (.int x4), some (.int x5), some (.int (x6 + (-1))), none, none, none, none, none]) ⟨rfl, ⟨rfl, ⟨rfl, ⟨rfl, ⟨rfl, ⟨rfl, ⟨rfl, True.intro⟩⟩⟩⟩⟩⟩⟩ <| (q1 h1)) (fun h1 => x_ald0 k12090_328 <| x_getR k12090_329 f12_91_11 (hK.at rfl) rfl (hR _ _ _ rfl) <| x_ild8 k12090_332 <| x_ald0 k12090_334 <| x_getR k12090_335 f12_88_11 (hK.at rfl) rfl (hR _ _ _ rfl) <| x_ild8 k12090_338 <| x_iald k12090_340 (hK.at rfl) (b1 h1) <| x_iast k12090_341 (hK.at rfl) (b1 h1) <| x_nm fun I2 e3 => x_inc8 (c := 1) k12090_342 rfl (Nat.le_of_ble_eq_true rfl) rfl <| x_goto (tgt := 318) k12090_345 (by decide) <| (q2 h1 I2 e3))
theorem g12090_242 {x1 : Int32} {x2 : Int32} {x3 : Int32} {x4 : Int32} {x5 : Int32} {x6 : Int32} {x7 : Int32} {x8 : Int32} {x9 : Int32}  (hK : qLay K sz)  (q1 : (I 73 23) ≤ x9 → X d 0 0 12090 0 0 230 [some (.ref 73), some (.int x1), some (.int x2), some (.int x3), some (.int x4), some (.int x5), some (.int x6), some (.int x7), some (.int (x8 + 1)), none, none, none] [] (K, I, L, R, sz) Q) (q2 : ¬ (I 73 23) ≤ x9 → X d 0 0 12090 0 0 254 [some (.ref 73), some (.int x1), some (.int x2), some (.int x3), some (.int x4), some (.int x5), some (.int x6), some (.int x7), some (.int x8), some (.int x9), some (.int 0), none] [] (K, I, L, R, sz) Q) : X d 0 0 12090 0 0 242 [some (.ref 73), some (.int x1), some (.int x2), some (.int x3), some (.int x4), some (.int x5), some (.int x6), some (.int x7), some (.int x8), some (.int x9), none, none] [] (K, I, L, R, sz) Q := x_ild9 k12090_242 <| x_ald0 k12090_244 <| x_getI k12090_245 f12_286_11 (hK.at rfl) rfl <| x_icmpge (tgt := 309) k12090_248 (by decide) (fun h1 => x_inc8 (c := 1) k12090_309 rfl (Nat.le_of_ble_eq_true rfl) rfl <| x_goto (tgt := 230) k12090_312 (by decide) <| x_wk (ls := [some (.ref 73), some (.int x1), some (.int x2), some (.int x3), some (.int x4), some (.int x5), some (.int x6), some (.int x7), some (.int (x8 + 1)), none, none, none]) ⟨rfl, ⟨rfl, ⟨rfl, ⟨rfl, ⟨rfl, ⟨rfl, ⟨rfl, ⟨rfl, ⟨rfl, True.intro⟩⟩⟩⟩⟩⟩⟩⟩⟩ <| (q1 h1)) (fun h1 => x_iconst (v := 0) k12090_251 rfl <| x_ist10 k12090_252 (Nat.le_of_ble_eq_true rfl) rfl <| (q2 h1))
theorem g12090_112 {x1 : Int32} {x2 : Int32} {x3 : Int32} {x4 : Int32} {x5 : Int32} {x6 : Int32} {x7 : Int32} {x8 : Int32} {x9 : Int32} {x10 : Int32}  (hK : qLay K sz) (hR : qRef R) (b1 : (I 73 24) ≤ x10 → vp_in ((6 * x6 + x7) * 243 + x8) 8748) (b2 : ¬ (I 73 24) ≤ x10 → vp_in x10 5) (b3 : ¬ (I 73 24) ≤ x10 → ¬ (I 99 x10.toNatClampNeg) = 0) (q1 : (I 73 24) ≤ x10 → ∀ I2 : Nat → Nat → Int32, I2 = va_up I 98 (upd (I 98) (((6 * x6 + x7) * 243 + x8).toNatClampNeg) x9) → X (d + 1) 0 0 12090 0 0 99 [some (.ref 73), some (.int x1), some (.int x2), some (.int x3), some (.int x4), some (.int x5), some (.int x6), some (.int x7), some (.int (x8 + 1)), none, none, none] [] (K, I2, L, R, sz) Q) (q2 : ¬ (I 73 24) ≤ x10 → ¬ ((x8 / (I 99 x10.toNatClampNeg)) - (x8 / (I 99 x10.toNatClampNeg)) / 3 * 3) = 1 → ¬ ((x8 / (I 99 x10.toNatClampNeg)) - (x8 / (I 99 x10.toNatClampNeg)) / 3 * 3) = 2 → X (d + 1) 0 0 12090 0 0 112 [some (.ref 73), some (.int x1), some (.int x2), some (.int x3), some (.int x4), some (.int x5), some (.int x6), some (.int x7), some (.int x8), some (.int (x9 + 0)), some (.int (x10 + 1)), none] [] (K, I, L, R, sz) Q) (q3 : ¬ (I 73 24) ≤ x10 → ¬ ((x8 / (I 99 x10.toNatClampNeg)) - (x8 / (I 99 x10.toNatClampNeg)) / 3 * 3) = 1 → ((x8 / (I 99 x10.toNatClampNeg)) - (x8 / (I 99 x10.toNatClampNeg)) / 3 * 3) = 2 → X (d + 1) 0 0 12090 0 0 112 [some (.ref 73), some (.int x1), some (.int x2), some (.int x3), some (.int x4), some (.int x5), some (.int x6), some (.int x7), some (.int x8), some (.int (x9 + (-1))), some (.int (x10 + 1)), none] [] (K, I, L, R, sz) Q) (q4 : ¬ (I 73 24) ≤ x10 → ((x8 / (I 99 x10.toNatClampNeg)) - (x8 / (I 99 x10.toNatClampNeg)) / 3 * 3) = 1 → X (d + 1) 0 0 12090 0 0 112 [some (.ref 73), some (.int x1), some (.int x2), some (.int x3), some (.int x4), some (.int x5), some (.int x6), some (.int x7), some (.int x8), some (.int (x9 + 1)), some (.int (x10 + 1)), none] [] (K, I, L, R, sz) Q) : X (d + 1) 0 0 12090 0 0 112 [some (.ref 73), some (.int x1), some (.int x2), some (.int x3), some (.int x4), some (.int x5), some (.int x6), some (.int x7), some (.int x8), some (.int x9), some (.int x10), none] [] (K, I, L, R, sz) Q := x_ild10 k12090_112 <| x_ald0 k12090_114 <| x_getI k12090_115 f12_289_11 (hK.at rfl) rfl <| x_icmpge (tgt := 167) k12090_118 (by decide) (fun h1 => x_ald0 k12090_167 <| x_getR k12090_168 f12_91_11 (hK.at rfl) rfl (hR _ _ _ rfl) <| x_ild6 k12090_171 <| x_ild7 k12090_173 <| x_ild8 k12090_175 <| x_cS3 (MCz := 0) (MSz := 0) k12090_177 s12_421 (Nat.le_of_ble_eq_true rfl) (Nat.le_of_ble_eq_true rfl) (Nat.le_refl _) (Nat.le_refl _) <| t12088 (x_ild9 k12090_180 <| x_iast k12090_182 (hK.at rfl) (b1 h1) <| x_nm fun I2 e3 => x_inc8 (c := 1) k12090_183 rfl (Nat.le_of_ble_eq_true rfl) rfl <| x_goto (tgt := 99) k12090_186 (by decide) <| x_wk (ls := [some (.ref 73), some (.int x1), some (.int x2), some (.int x3), some (.int x4), some (.int x5), some (.int x6), some (.int x7), some (.int (x8 + 1)), none, none, none]) ⟨rfl, ⟨rfl, ⟨rfl, ⟨rfl, ⟨rfl, ⟨rfl, ⟨rfl, ⟨rfl, ⟨rfl, True.intro⟩⟩⟩⟩⟩⟩⟩⟩⟩ <| (q1 h1 I2 e3))) (fun h1 => x_ild8 k12090_121 <| x_ald0 k12090_123 <| x_getR k12090_124 f12_94_11 (hK.at rfl) rfl (hR _ _ _ rfl) <| x_ild10 k12090_127 <| x_iald k12090_129 (hK.at rfl) (b2 h1) <| x_idiv k12090_130 (b3 h1) <| x_iconst (v := 3) k12090_131 rfl <| x_irem k12090_132 (by decide) <| x_ist11 k12090_133 (Nat.le_of_ble_eq_true rfl) rfl <| x_ild9 k12090_135 <| x_ild11 k12090_137 <| x_iconst (v := 1) k12090_139 rfl <| x_icmpne (tgt := 147) k12090_140 (by decide) (fun h4 => x_ild11 k12090_147 <| x_iconst (v := 2) k12090_149 rfl <| x_icmpne (tgt := 157) k12090_150 (by decide) (fun h5 => x_iconst (v := 0) k12090_157 rfl <| x_iadd k12090_158 <| x_ist9 k12090_159 (Nat.le_of_ble_eq_true rfl) rfl <| x_inc10 (c := 1) k12090_161 rfl (Nat.le_of_ble_eq_true rfl) rfl <| x_goto (tgt := 112) k12090_164 (by decide) <| x_wk (ls := [some (.ref 73), some (.int x1), some (.int x2), some (.int x3), some (.int x4), some (.int x5), some (.int x6), some (.int x7), some (.int x8), some (.int (x9 + 0)), some (.int (x10 + 1)), none]) ⟨rfl, ⟨rfl, ⟨rfl, ⟨rfl, ⟨rfl, ⟨rfl, ⟨rfl, ⟨rfl, ⟨rfl, ⟨rfl, ⟨rfl, True.intro⟩⟩⟩⟩⟩⟩⟩⟩⟩⟩⟩ <| (q2 h1 h4 h5)) (fun h5 => x_iconst (v := (-1)) k12090_153 rfl <| x_goto (tgt := 158) k12090_154 (by decide) <| x_iadd k12090_158 <| x_ist9 k12090_159 (Nat.le_of_ble_eq_true rfl) rfl <| x_inc10 (c := 1) k12090_161 rfl (Nat.le_of_ble_eq_true rfl) rfl <| x_goto (tgt := 112) k12090_164 (by decide) <| x_wk (ls := [some (.ref 73), some (.int x1), some (.int x2), some (.int x3), some (.int x4), some (.int x5), some (.int x6), some (.int x7), some (.int x8), some (.int (x9 + (-1))), some (.int (x10 + 1)), none]) ⟨rfl, ⟨rfl, ⟨rfl, ⟨rfl, ⟨rfl, ⟨rfl, ⟨rfl, ⟨rfl, ⟨rfl, ⟨rfl, ⟨rfl, True.intro⟩⟩⟩⟩⟩⟩⟩⟩⟩⟩⟩ <| (q3 h1 h4 h5))) (fun h4 => x_iconst (v := 1) k12090_143 rfl <| x_goto (tgt := 158) k12090_144 (by decide) <| x_iadd k12090_158 <| x_ist9 k12090_159 (Nat.le_of_ble_eq_true rfl) rfl <| x_inc10 (c := 1) k12090_161 rfl (Nat.le_of_ble_eq_true rfl) rfl <| x_goto (tgt := 112) k12090_164 (by decide) <| x_wk (ls := [some (.ref 73), some (.int x1), some (.int x2), some (.int x3), some (.int x4), some (.int x5), some (.int x6), some (.int x7), some (.int x8), some (.int (x9 + 1)), some (.int (x10 + 1)), none]) ⟨rfl, ⟨rfl, ⟨rfl, ⟨rfl, ⟨rfl, ⟨rfl, ⟨rfl, ⟨rfl, ⟨rfl, ⟨rfl, ⟨rfl, True.intro⟩⟩⟩⟩⟩⟩⟩⟩⟩⟩⟩ <| (q4 h1 h4)))
theorem g12090_254 {x1 : Int32} {x2 : Int32} {x3 : Int32} {x4 : Int32} {x5 : Int32} {x6 : Int32} {x7 : Int32} {x8 : Int32} {x9 : Int32} {x10 : Int32}  (hK : qLay K sz) (hR : qRef R)  (q1 : x5 ≤ x10 → X (d + 1) 0 0 12090 0 0 242 [some (.ref 73), some (.int x1), some (.int x2), some (.int x3), some (.int x4), some (.int x5), some (.int x6), some (.int x7), some (.int x8), some (.int (x9 + 1)), none, none] [] (K, I, L, R, sz) Q) (q2 : ¬ x5 ≤ x10 → x7 = 0 → X (d + 1) 0 0 12090 0 0 293 [some (.ref 73), some (.int x1), some (.int x2), some (.int x3), some (.int x4), some (.int x5), some (.int x6), some (.int x7), some (.int x8), some (.int x9), some (.int x10), none] [.int x10, .int x9, .int x8, .int x7, .int x2, .ref 73, .int ((6 * x8 + x9) * 243 + x10), .ref 97] (K, I, L, R, sz) Q) (q3 : ¬ x5 ≤ x10 → ¬ x7 = 0 → X (d + 1) 0 0 12090 0 0 293 [some (.ref 73), some (.int x1), some (.int x2), some (.int x3), some (.int x4), some (.int x5), some (.int x6), some (.int x7), some (.int x8), some (.int x9), some (.int x10), none] [.int x10, .int x9, .int x8, .int x7, .int x1, .ref 73, .int ((6 * x8 + x9) * 243 + x10), .ref 97] (K, I, L, R, sz) Q) : X (d + 1) 0 0 12090 0 0 254 [some (.ref 73), some (.int x1), some (.int x2), some (.int x3), some (.int x4), some (.int x5), some (.int x6), some (.int x7), some (.int x8), some (.int x9), some (.int x10), none] [] (K, I, L, R, sz) Q := x_ild10 k12090_254 <| x_ild5 k12090_256 <| x_icmpge (tgt := 303) k12090_258 (by decide) (fun h1 => x_inc9 (c := 1) k12090_303 rfl (Nat.le_of_ble_eq_true rfl) rfl <| x_goto (tgt := 242) k12090_306 (by decide) <| x_wk (ls := [some (.ref 73), some (.int x1), some (.int x2), some (.int x3), some (.int x4), some (.int x5), some (.int x6), some (.int x7), some (.int x8), some (.int (x9 + 1)), none, none]) ⟨rfl, ⟨rfl, ⟨rfl, ⟨rfl, ⟨rfl, ⟨rfl, ⟨rfl, ⟨rfl, ⟨rfl, ⟨rfl, True.intro⟩⟩⟩⟩⟩⟩⟩⟩⟩⟩ <| (q1 h1)) (fun h1 => x_ald0 k12090_261 <| x_getR k12090_262 f12_88_11 (hK.at rfl) rfl (hR _ _ _ rfl) <| x_ild8 k12090_265 <| x_ild9 k12090_267 <| x_ild10 k12090_269 <| x_cS3 (MCz := 0) (MSz := 0) k12090_271 s12_421 (Nat.le_of_ble_eq_true rfl) (Nat.le_of_ble_eq_true rfl) (Nat.le_refl _) (Nat.le_refl _) <| t12088 (x_ald0 k12090_274 <| x_ild7 k12090_275 <| x_ifeq (tgt := 284) k12090_277 (by decide) (fun h2 => x_ild2 k12090_284 <| x_ild7 k12090_285 <| x_ild8 k12090_287 <| x_ild9 k12090_289 <| x_ild10 k12090_291 <| (q2 h1 h2)) (fun h2 => x_ild1 k12090_280 <| x_goto (tgt := 285) k12090_281 (by decide) <| x_ild7 k12090_285 <| x_ild8 k12090_287 <| x_ild9 k12090_289 <| x_ild10 k12090_291 <| (q3 h1 h2))))
theorem f12090a {a : Int32} {b : Int32} {c : Int32} {e : Int32} {x5 : Int32} {x6 : Int32} {x7 : Int32} {x8 : Int32} {x9 : Int32} {x10 : Int32} {i : Int32} {v : Int32}  (hK : qLay K sz) (b1 : vp_in i 8748) (q1 : ∀ I1 : Nat → Nat → Int32, I1 = va_up I 97 (upd (I 97) i.toNatClampNeg v) → X d 0 0 12090 0 0 254 [some (.ref 73), some (.int a), some (.int b), some (.int c), some (.int e), some (.int x5), some (.int x6), some (.int x7), some (.int x8), some (.int x9), some (.int (x10 + 1)), none] [] (K, I1, L, R, sz) Q) : X d 0 0 12090 0 0 296 [some (.ref 73), some (.int a), some (.int b), some (.int c), some (.int e), some (.int x5), some (.int x6), some (.int x7), some (.int x8), some (.int x9), some (.int x10), none] [.int v, .int i, .ref 97] (K, I, L, R, sz) Q := x_iast k12090_296 (hK.at rfl) b1 <| x_nm fun I1 e2 => x_inc10 (c := 1) k12090_297 rfl (Nat.le_of_ble_eq_true rfl) rfl <| x_goto (tgt := 254) k12090_300 (by decide) <| (q1 I1 e2)
theorem f12090b {a : Int32} {b : Int32} {c : Int32} {e : Int32} {x5 : Int32} {x6 : Int32} {v : Int32}  (hK : qLay K sz)  (q1 : ¬ e = 0 → Q (some (.int (I 73 37))) (K, I, L, R, sz)) (q2 : e = 0 → Q (some (.int v)) (K, I, L, R, sz)) : X d 0 0 12090 0 0 379 [some (.ref 73), some (.int a), some (.int b), some (.int c), some (.int e), some (.int x5), some (.int x6), none, none, none, none, none] [.int v] (K, I, L, R, sz) Q := x_ist6 k12090_379 (Nat.le_of_ble_eq_true rfl) rfl <| x_ild4 k12090_381 <| x_ifne (tgt := 391) k12090_383 (by decide) (fun h1 => x_ald0 k12090_391 <| x_getI k12090_392 f12_359_11 (hK.at rfl) rfl <| x_iret k12090_395 rfl (Nat.le_refl _) (Nat.le_refl _) <| (q1 h1)) (fun h1 => x_ild6 k12090_386 <| x_goto (tgt := 395) k12090_388 (by decide) <| x_iret k12090_395 rfl (Nat.le_refl _) (Nat.le_refl _) <| (q2 h1))
theorem s12090 {a b c e : Int32} (hK : qLay K sz) (hR : qRef R) (cI : CI I p) (rI : RI I p) (hpw : iPw I) (hq : ∀ J, qAf I p J → Q (some (.int (fRivals I p a b c e))) (K, J, L, R, sz)) : X (d + 3) 0 0 12090 0 0 0 (qent (qml 12090) [.ref 73, .int a, .int b, .int c, .int e]) [] (K, I, L, R, sz) Q := by
  have w5 := cI.w5
  have w3 := cI.w3
  have w6 : pR p ≤ 6 := cI.1.2.1.1
  have w9 := p3_5 w5
  have w0 := p3_0 (pS p)
  have lR : I 73 23 = nI (pR p) := by rw [rI.1.1]; exact cI.1.1.1
  have lS : I 73 24 = nI (pS p) := rI.mS cI
  have zR : ∀ J, qRv I J → J 73 23 = nI (pR p) := fun J h => by rw [h.z (by decide)]; exact lR
  have zS : ∀ J, qRv I J → J 73 24 = nI (pS p) := fun J h => by rw [h.z (by decide)]; exact lS
  have hout : ¬ rvG p a b c e → Q (some (.int (-1000000))) (K, I, L, R, sz) := fun g => by
    have := hq I (qAf.refl cI)
    unfold fRivals at this
    rw [if_neg g] at this; exact this
  have c1 : ¬ c < 1 ↔ 1 ≤ c := Int32.not_lt
  have c8 : ¬ 8 < c ↔ c ≤ 8 := Int32.not_lt
  have ce : (e = 0 ∨ e = 1) ↔ (0 ≤ e ∧ e ≤ 1) := by
    have e0 : (0 : Int32).toInt = 0 := rfl
    have e1 : (1 : Int32).toInt = 1 := rfl
    rw [i_eq, i_eq, i_le, i_le, e0, e1]; omega
  refine e12090 (d := d + 1) hK cI rI (fun _ _ h => hout (fun g => g.2.2.1 h)) (fun ga gb gab g1 g8 g0 g01 => ?_) (fun _ _ _ _ _ h => hout (fun g => h (ce.mp g.2.2.2.2.2))) (fun _ _ _ h => hout (fun g => h ⟨c1.mp g.2.2.2.1, c8.mp g.2.2.2.2.1⟩)) (fun _ h => hout (fun g => h g.2.1)) (fun h => hout (fun g => h g.1))
  have g : rvG p a b c e := ⟨ga, gb, gab, c1.mpr g1, c8.mpr g8, ce.mpr ⟨g0, g01⟩⟩
  clear hout
  obtain ⟨n, hn, rfl⟩ := nI_of (x := c) (fun h => g.2.2.2.1 (Int32.lt_trans h (by decide)))
  have hn1 : 1 ≤ n := by
    have := g.2.2.2.1
    rw [show (1 : Int32) = nI 1 from rfl, nI_ltI hn (by omega)] at this; omega
  have hn8 : n ≤ 8 := by
    have := g.2.2.2.2.1
    rw [show (8 : Int32) = nI 8 from rfl, nI_ltI (by omega) hn] at this; omega
  obtain ⟨m1, hm1, rfl⟩ := ga
  obtain ⟨m2, hm2, rfl⟩ := gb
  obtain ⟨r1, w1, h1⟩ := cI.1.2.2.2.1 m1 hm1
  obtain ⟨r2, w2, h2⟩ := cI.1.2.2.2.1 m2 hm2
  have hA : rvA I p (nI m1) (nI m2) (nI n) = rvS I p m1 m2 true (rvV I p m1 m2 (2 * n - 1)) r1 r2 0 := by
    unfold rvA
    rw [nI_c (by omega), nI_c (by omega), nI_c (by omega), h1, h2, nI_c (by omega), nI_c (by omega)]
  have hF : ∀ J, qRv I J → Q (some (.int (if e = 0 then (rvS I p m1 m2 true (rvV I p m1 m2 (2 * n - 1)) r1 r2 0).1 else (rvS I p m1 m2 true (rvV I p m1 m2 (2 * n - 1)) r1 r2 0).2))) (K, J, L, R, sz) := fun J h => by
    have := hq J (h.af cI)
    unfold fRivals at this
    rw [if_pos g, hA] at this; exact this
  have h24 : ∀ J, qRv I J → ∀ s, s < 5 → J (24 + s) = I (24 + s) := fun J h s hs => h.row (by omega) (by omega) (by omega)
  have m85 : ∀ J, qRv I J → ∀ m r, m < 3 → m < pM p → I (30 + m) 0 = nI r → J 85 ((15 + nI m).toNatClampNeg) = nI r := fun J h m r hm hmp e => by
    rw [show (15 : Int32) = nI 15 from rfl, nI_add, nI_c (by omega), h.row (by decide) (by decide) (by decide), rI.2.1.2.1 m hm hmp, e]
  have v15 : ∀ m, m < 3 → vp_in (15 + nI m) 34 := fun m hm => by
    rw [show (15 : Int32) = nI 15 from rfl, nI_add]; exact vI (by omega) (by omega)
  -- the turns
  have h208 : ∀ t, t ≤ 2 * n - 1 → ∀ J, qRv I J → tR (J 98) p (rvV I p m1 m2 (2 * n - 1 - t)) → X (d + 3) 0 0 12090 0 0 208 [some (.ref 73), some (.int (nI m1)), some (.int (nI m2)), some (.int (nI n)), some (.int e), some (.int (nI (3 ^ pS p))), some (.int (nI t)), none, none, none, none, none] [] (K, J, L, R, sz) Q := by
    intro t
    induction t with
    | zero =>
      intro ht J hJ hT
      refine g12090_208 (d := d + 2) hK hR (fun _ => v15 m1 (by omega)) (fun _ => v15 m2 (by omega)) (fun _ => ?_) (fun h => absurd (by decide) h) (fun h => absurd (by decide) h)
      rw [m85 J hJ m1 r1 (by omega) (by omega) h1, m85 J hJ m2 r2 (by omega) (by omega) h2]
      refine x_cV5 (MCz := 0) (MSz := 0) k12090_376 v12_424_11 (hK.at rfl) (Nat.le_of_ble_eq_true rfl) (Nat.le_of_ble_eq_true rfl) (Nat.le_refl _) (Nat.le_refl _) <| s12089 (m1 := m1) (m2 := m2) (f := true) hK hR (hJ.af cI).2 (RI_fr hJ.fr rI) (hJ.pw hpw) rfl rfl w1 w2 w0 (fun r hr => ?_)
      have hr' : r = rvS I p m1 m2 true (rvV I p m1 m2 (2 * n - 1)) r1 r2 0 := by
        rw [hr]
        exact rvS_c (h24 J hJ) w5 (fun a b o ha hb ho => hT a b o ha hb ho) w1 w2 w0
      refine f12090b hK (fun q => ?_) (fun q => ?_)
      · have := hF _ (hJ.bm (v := r.2))
        rw [if_neg q, ← hr'] at this
        exact this
      · have := hF _ (hJ.bm (v := r.2))
        rw [if_pos q, ← hr'] at this
        exact this
    | succ t ih =>
      intro ht J hJ hT
      obtain ⟨V, hV⟩ : ∃ V, V = rvV I p m1 m2 (2 * n - 1 - (t + 1)) := ⟨_, rfl⟩
      rw [← hV] at hT
      obtain ⟨f, hf⟩ : ∃ f : Bool, f = decide ((t + 1) % 2 = 0) := ⟨_, rfl⟩
      have hV' : rvV I p m1 m2 (2 * n - 1 - t) = fun a b o => (rvS I p m1 m2 f V a b o).1 := by
        have ek : 2 * n - 1 - t = (2 * n - 1 - (t + 1)) + 1 := by omega
        have ep : decide ((2 * n - 1 - (t + 1)) % 2 = 1) = f := by rw [hf, decide_eq_decide]; omega
        rw [ek, rvV, ep, hV]
      -- copying
      have h318 : ∀ x7 W, (∀ a b o, a < pR p → b < pR p → o < 3 ^ pS p → W (sp a b o) = (rvS I p m1 m2 f V a b o).1) → ∀ (k i : Nat), i + k = 8748 → ∀ J, qRv I J → J 97 = W → (∀ j, j < i → J 98 j = W j) → X (d + 3) 0 0 12090 0 0 318 [some (.ref 73), some (.int (nI m1)), some (.int (nI m2)), some (.int (nI n)), some (.int e), some (.int (nI (3 ^ pS p))), some (.int (nI (t + 1))), some (.int x7), some (.int (nI i)), none, none, none] [] (K, J, L, R, sz) Q := by
        intro x7 W hW k
        induction k with
        | zero =>
          intro i hi J hJ h7 h8
          have hle : Int32.ofNat 8748 ≤ nI i := nI_le (a := 8748) (by omega) (by omega)
          refine g12090_318 hK hR (fun h => absurd hle h) (fun _ => ?_) (fun h => absurd hle h)
          rw [pk_m1]
          refine ih (by omega) J hJ ?_
          rw [hV']
          intro a b o ha hb ho
          rw [h8 _ (by have := sp_lt (show a < 6 by omega) (show b < 6 by omega) (show o < 243 by omega); omega)]
          exact hW a b o ha hb ho
        | succ k ihk =>
          intro i hi J hJ h7 h8
          have hnl : ¬ Int32.ofNat 8748 ≤ nI i := nI_ge (b := 8748) (by omega) (by omega)
          refine g12090_318 hK hR (fun _ => vI (by omega) (by omega)) (fun h => absurd h hnl) (fun _ H hH => ?_)
          rw [nI_c (by omega)] at hH
          rw [nI_1]
          refine ihk (i + 1) (by omega) H (by rw [hH]; exact hJ.u8) (by rw [hH, vu_n (by decide)]; exact h7) (fun j hj => ?_)
          rw [hH, vu_s]; unfold upd
          by_cases q : j = i
          · rw [if_pos q, q, h7]
          · rw [if_neg q]; exact h8 j (by omega)
      -- all standings
      have hx7 : ∀ x7 : Int32, x7 = (if f then 1 else 0) → X (d + 3) 0 0 12090 0 0 230 [some (.ref 73), some (.int (nI m1)), some (.int (nI m2)), some (.int (nI n)), some (.int e), some (.int (nI (3 ^ pS p))), some (.int (nI (t + 1))), some (.int x7), some (.int 0), none, none, none] [] (K, J, L, R, sz) Q := by
        intro x7 hx
        have h254 : ∀ a b, a < pR p → b < pR p → (∀ J, qRv I J → J 98 = (fun i => J 98 i) → tR (J 98) p V → (∀ a' b' o', a' < pR p → b' < pR p → o' < 3 ^ pS p → (a' < a ∨ (a' = a ∧ b' < b + 1)) → J 97 (sp a' b' o') = (rvS I p m1 m2 f V a' b' o').1) → X (d + 3) 0 0 12090 0 0 242 [some (.ref 73), some (.int (nI m1)), some (.int (nI m2)), some (.int (nI n)), some (.int e), some (.int (nI (3 ^ pS p))), some (.int (nI (t + 1))), some (.int x7), some (.int (nI a)), some (.int (nI (b + 1))), none, none] [] (K, J, L, R, sz) Q) →
            ∀ (k o : Nat), o + k = 3 ^ pS p → ∀ J, qRv I J → tR (J 98) p V → (∀ a' b' o', a' < pR p → b' < pR p → o' < 3 ^ pS p → (a' < a ∨ (a' = a ∧ (b' < b ∨ (b' = b ∧ o' < o)))) → J 97 (sp a' b' o') = (rvS I p m1 m2 f V a' b' o').1) → X (d + 3) 0 0 12090 0 0 254 [some (.ref 73), some (.int (nI m1)), some (.int (nI m2)), some (.int (nI n)), some (.int e), some (.int (nI (3 ^ pS p))), some (.int (nI (t + 1))), some (.int x7), some (.int (nI a)), some (.int (nI b)), some (.int (nI o)), none] [] (K, J, L, R, sz) Q := by
          intro a b ha hb hnx k
          induction k with
          | zero =>
            intro o ho J hJ hT hD
            have hle : nI (3 ^ pS p) ≤ nI o := nI_le (by omega) (by omega)
            refine g12090_254 (d := d + 2) hK hR (fun _ => ?_) (fun h => absurd hle h) (fun h => absurd hle h)
            rw [nI_1]
            exact hnx J hJ rfl hT (fun a' b' o' ha' hb' ho' hc => hD a' b' o' ha' hb' ho' (by omega))
          | succ k ihk =>
            intro o ho J hJ hT hD
            have hnl : ¬ nI (3 ^ pS p) ≤ nI o := nI_ge (by omega) (by omega)
            have hsp := sp_lt (show a < 6 by omega) (show b < 6 by omega) (show o < 243 by omega)
            have hcall : ∀ m, (m = if f then m1 else m2) → X (d + 3) 0 0 12090 0 0 293 [some (.ref 73), some (.int (nI m1)), some (.int (nI m2)), some (.int (nI n)), some (.int e), some (.int (nI (3 ^ pS p))), some (.int (nI (t + 1))), some (.int x7), some (.int (nI a)), some (.int (nI b)), some (.int (nI o)), none] [.int (nI o), .int (nI b), .int (nI a), .int x7, .int (nI m), .ref 73, .int ((6 * nI a + nI b) * 243 + nI o), .ref 97] (K, J, L, R, sz) Q := by
              intro m hm
              refine x_cV5 (MCz := 0) (MSz := 0) k12090_293 v12_424_11 (hK.at rfl) (Nat.le_of_ble_eq_true rfl) (Nat.le_of_ble_eq_true rfl) (Nat.le_refl _) (Nat.le_refl _) <| s12089 (m1 := m1) (m2 := m2) (f := f) hK hR (hJ.af cI).2 (RI_fr hJ.fr rI) (hJ.pw hpw) hx hm ha hb (by omega) (fun r hr => ?_)
              have hr' : r = rvS I p m1 m2 f V a b o := by
                rw [hr]
                exact rvS_c (h24 J hJ) w5 (fun a b o ha hb ho => hT a b o ha hb ho) ha hb (by omega)
              rw [sp_I]
              refine f12090a hK (vI hsp (by omega)) (fun H hH => ?_)
              rw [nI_c (by omega), show (bm J r.2) 97 = J 97 from vu_n (by decide)] at hH
              rw [nI_1]
              have h8 : H 98 = J 98 := by rw [hH, vu_n (by decide)]; exact vu_n (by decide)
              refine ihk (o + 1) (by omega) H (by rw [hH]; exact hJ.bm.u7) (by rw [h8]; exact hT) (fun a' b' o' ha' hb' ho' hc => ?_)
              rw [hH, vu_s]
              unfold upd
              by_cases q : a' = a ∧ b' = b ∧ o' = o
              · obtain ⟨rfl, rfl, rfl⟩ := q
                rw [if_pos rfl, hr']
              · rw [if_neg (fun e => q (by unfold sp at e; omega))]
                exact hD a' b' o' ha' hb' ho' (by omega)
            refine g12090_254 (d := d + 2) hK hR (fun h => absurd h hnl) (fun _ g1 => ?_) (fun _ g1 => ?_)
            · refine hcall m2 ?_
              cases f
              · rfl
              · rw [hx] at g1; exact absurd g1 (by decide)
            · refine hcall m1 ?_
              cases f
              · rw [hx] at g1; exact absurd rfl g1
              · rfl
        have h242 : ∀ a, a < pR p → (∀ J, qRv I J → tR (J 98) p V → (∀ a' b' o', a' < pR p → b' < pR p → o' < 3 ^ pS p → a' < a + 1 → J 97 (sp a' b' o') = (rvS I p m1 m2 f V a' b' o').1) → X (d + 3) 0 0 12090 0 0 230 [some (.ref 73), some (.int (nI m1)), some (.int (nI m2)), some (.int (nI n)), some (.int e), some (.int (nI (3 ^ pS p))), some (.int (nI (t + 1))), some (.int x7), some (.int (nI (a + 1))), none, none, none] [] (K, J, L, R, sz) Q) →
            ∀ (k b : Nat), b + k = pR p → ∀ J, qRv I J → tR (J 98) p V → (∀ a' b' o', a' < pR p → b' < pR p → o' < 3 ^ pS p → (a' < a ∨ (a' = a ∧ b' < b)) → J 97 (sp a' b' o') = (rvS I p m1 m2 f V a' b' o').1) → X (d + 3) 0 0 12090 0 0 242 [some (.ref 73), some (.int (nI m1)), some (.int (nI m2)), some (.int (nI n)), some (.int e), some (.int (nI (3 ^ pS p))), some (.int (nI (t + 1))), some (.int x7), some (.int (nI a)), some (.int (nI b)), none, none] [] (K, J, L, R, sz) Q := by
          intro a ha hnx k
          induction k with
          | zero =>
            intro b hb J hJ hT hD
            have hle : J 73 23 ≤ nI b := by rw [zR J hJ]; exact nI_le (by omega) (by omega)
            refine g12090_242 hK (fun _ => ?_) (fun h => absurd hle h)
            rw [nI_1]
            exact hnx J hJ hT (fun a' b' o' ha' hb' ho' hc => hD a' b' o' ha' hb' ho' (by omega))
          | succ k ihk =>
            intro b hb J hJ hT hD
            have hnl : ¬ J 73 23 ≤ nI b := by rw [zR J hJ]; exact nI_ge (by omega) (by omega)
            refine g12090_242 hK (fun h => absurd h hnl) (fun _ => ?_)
            exact h254 a b ha (by omega) (fun J' g1 _ g3 g4 => ihk (b + 1) (by omega) J' g1 g3 g4) (3 ^ pS p) 0 (by omega) J hJ hT (fun a' b' o' ha' hb' ho' hc => hD a' b' o' ha' hb' ho' (by omega))
        have h230 : ∀ (k a : Nat), a + k = pR p → ∀ J, qRv I J → tR (J 98) p V → (∀ a' b' o', a' < pR p → b' < pR p → o' < 3 ^ pS p → a' < a → J 97 (sp a' b' o') = (rvS I p m1 m2 f V a' b' o').1) → X (d + 3) 0 0 12090 0 0 230 [some (.ref 73), some (.int (nI m1)), some (.int (nI m2)), some (.int (nI n)), some (.int e), some (.int (nI (3 ^ pS p))), some (.int (nI (t + 1))), some (.int x7), some (.int (nI a)), none, none, none] [] (K, J, L, R, sz) Q := by
          intro k
          induction k with
          | zero =>
            intro a ha J hJ hT hD
            have hle : J 73 23 ≤ nI a := by rw [zR J hJ]; exact nI_le (by omega) (by omega)
            refine g12090_230 hK (fun _ => ?_) (fun h => absurd hle h)
            exact h318 x7 (J 97) (fun a' b' o' ha' hb' ho' => hD a' b' o' ha' hb' ho' (by omega)) 8748 0 (by omega) J hJ rfl (fun j hj => absurd hj (by omega))
          | succ k ihk =>
            intro a ha J hJ hT hD
            have hnl : ¬ J 73 23 ≤ nI a := by rw [zR J hJ]; exact nI_ge (by omega) (by omega)
            refine g12090_230 hK (fun h => absurd h hnl) (fun _ => ?_)
            exact h242 a (by omega) (fun J' g1 g2 g3 => ihk (a + 1) (by omega) J' g1 g2 g3) (pR p) 0 (by omega) J hJ hT (fun a' b' o' ha' hb' ho' hc => hD a' b' o' ha' hb' ho' (by omega))
        exact h230 (pR p) 0 (by omega) J hJ hT (fun a' b' o' _ _ _ hc => absurd hc (by omega))
      have et : nI (t + 1) - nI (t + 1) / 2 * 2 = nI ((t + 1) % 2) := by
        rw [show (2 : Int32) = nI 2 from rfl, pk_div (by omega) (by omega) (by omega), pk_mul, pk_sub (by omega)]
        congr 1; omega
      have ez : nI ((t + 1) % 2) = 0 ↔ (t + 1) % 2 = 0 := nI_eq (b := 0) (by omega) (by omega)
      have hn0 : ¬ nI (t + 1) ≤ 0 := nI_nle (by omega) (by omega)
      refine g12090_208 (d := d + 2) hK hR (fun h => absurd h hn0) (fun h => absurd h hn0) (fun h => absurd h hn0) (fun _ q => ?_) (fun _ q => ?_)
      · rw [et, ez] at q
        exact hx7 0 (by rw [hf, decide_eq_false q]; rfl)
      · rw [et, ez] at q
        exact hx7 1 (by rw [hf, decide_eq_true q]; rfl)
  -- the start
  have h112 : ∀ a b o, a < pR p → b < pR p → o < 3 ^ pS p → (∀ J, qRv I J → (∀ a' b' o', a' < pR p → b' < pR p → o' < 3 ^ pS p → (a' < a ∨ (a' = a ∧ (b' < b ∨ (b' = b ∧ o' < o + 1)))) → J 98 (sp a' b' o') = moN o' (pS p)) → X (d + 3) 0 0 12090 0 0 99 [some (.ref 73), some (.int (nI m1)), some (.int (nI m2)), some (.int (nI n)), some (.int e), some (.int (nI (3 ^ pS p))), some (.int (nI a)), some (.int (nI b)), some (.int (nI (o + 1))), none, none, none] [] (K, J, L, R, sz) Q) →
      ∀ J, qRv I J → (∀ a' b' o', a' < pR p → b' < pR p → o' < 3 ^ pS p → (a' < a ∨ (a' = a ∧ (b' < b ∨ (b' = b ∧ o' < o)))) → J 98 (sp a' b' o') = moN o' (pS p)) → ∀ (k s : Nat), s + k = pS p → X (d + 3) 0 0 12090 0 0 112 [some (.ref 73), some (.int (nI m1)), some (.int (nI m2)), some (.int (nI n)), some (.int e), some (.int (nI (3 ^ pS p))), some (.int (nI a)), some (.int (nI b)), some (.int (nI o)), some (.int (moN o s)), some (.int (nI s)), none] [] (K, J, L, R, sz) Q := by
    intro a b o ha hb ho hnx J hJ hD k
    have hsp := sp_lt (show a < 6 by omega) (show b < 6 by omega) (show o < 243 by omega)
    induction k with
    | zero =>
      intro s hs
      have hle : J 73 24 ≤ nI s := by rw [zS J hJ]; exact nI_le (by omega) (by omega)
      have : s = pS p := by omega
      subst this
      refine g12090_112 (d := d + 2) hK hR (fun _ => by rw [sp_I]; exact vI hsp (by omega)) (fun h => absurd hle h) (fun h => absurd hle h) (fun _ H hH => ?_) (fun h => absurd hle h) (fun h => absurd hle h) (fun h => absurd hle h)
      rw [sp_I, nI_c (by omega)] at hH
      rw [nI_1]
      refine hnx H (by rw [hH]; exact hJ.u8) (fun a' b' o' ha' hb' ho' hc => ?_)
      rw [hH, vu_s]
      unfold upd
      by_cases q : a' = a ∧ b' = b ∧ o' = o
      · obtain ⟨rfl, rfl, rfl⟩ := q
        rw [if_pos rfl]
      · rw [if_neg (fun e => q (by unfold sp at e; omega))]
        exact hD a' b' o' ha' hb' ho' (by omega)
    | succ k ih =>
      intro s hs
      have hnl : ¬ J 73 24 ≤ nI s := by rw [zS J hJ]; exact nI_ge (by omega) (by omega)
      have es : (nI s).toNatClampNeg = s := nI_c (by omega)
      have ep : J 99 s = nI (3 ^ s) := (hJ.pw hpw).at (by omega)
      have ps := p3_0 s
      have ps9 := p3_5 (show s ≤ 5 by omega)
      have hw := @ow_lt o s
      have eo : nI o / J 99 (nI s).toNatClampNeg - nI o / J 99 (nI s).toNatClampNeg / 3 * 3 = nI (owN o s) := by
        have hdv : o / 3 ^ s ≤ o := Nat.div_le_self _ _
        have h9 : o / 3 ^ s - o / 3 ^ s / 3 * 3 = owN o s := by unfold owN; omega
        rw [es, ep, pk_div (by omega) ps (by omega), show (3 : Int32) = nI 3 from rfl, pk_div (by omega) (by omega) (by omega), pk_mul, pk_sub (by omega), h9]
      have e1 : nI (owN o s) = 1 ↔ owN o s = 1 := nI_eq (b := 1) (by omega) (by omega)
      have e2 : nI (owN o s) = 2 ↔ owN o s = 2 := nI_eq (b := 2) (by omega) (by omega)
      have ih' := ih (s + 1) (by omega)
      rw [moN] at ih'
      refine g12090_112 (d := d + 2) hK hR (fun h => absurd h hnl) (fun _ => vI (by omega) (by omega)) (fun _ => by rw [es, ep]; exact nI_ne0 ps (by omega)) (fun h => absurd h hnl) (fun _ q1 q2 => ?_) (fun _ q1 q2 => ?_) (fun _ q1 => ?_)
      · rw [eo, e1] at q1
        rw [eo, e2] at q2
        rw [if_neg q1, if_neg q2] at ih'
        rw [nI_1]; exact ih'
      · rw [eo, e1] at q1
        rw [eo, e2] at q2
        rw [if_neg q1, if_pos q2] at ih'
        rw [nI_1]; exact ih'
      · rw [eo, e1] at q1
        rw [if_pos q1] at ih'
        rw [nI_1]; exact ih'
  have h99 : ∀ a b, a < pR p → b < pR p → (∀ J, qRv I J → (∀ a' b' o', a' < pR p → b' < pR p → o' < 3 ^ pS p → (a' < a ∨ (a' = a ∧ b' < b + 1)) → J 98 (sp a' b' o') = moN o' (pS p)) → X (d + 3) 0 0 12090 0 0 87 [some (.ref 73), some (.int (nI m1)), some (.int (nI m2)), some (.int (nI n)), some (.int e), some (.int (nI (3 ^ pS p))), some (.int (nI a)), some (.int (nI (b + 1))), none, none, none, none] [] (K, J, L, R, sz) Q) →
      ∀ (k o : Nat), o + k = 3 ^ pS p → ∀ J, qRv I J → (∀ a' b' o', a' < pR p → b' < pR p → o' < 3 ^ pS p → (a' < a ∨ (a' = a ∧ (b' < b ∨ (b' = b ∧ o' < o)))) → J 98 (sp a' b' o') = moN o' (pS p)) → X (d + 3) 0 0 12090 0 0 99 [some (.ref 73), some (.int (nI m1)), some (.int (nI m2)), some (.int (nI n)), some (.int e), some (.int (nI (3 ^ pS p))), some (.int (nI a)), some (.int (nI b)), some (.int (nI o)), none, none, none] [] (K, J, L, R, sz) Q := by
    intro a b ha hb hnx k
    induction k with
    | zero =>
      intro o ho J hJ hD
      have hle : nI (3 ^ pS p) ≤ nI o := nI_le (by omega) (by omega)
      refine g12090_99 (fun _ => ?_) (fun h => absurd hle h)
      rw [nI_1]
      exact hnx J hJ (fun a' b' o' ha' hb' ho' hc => hD a' b' o' ha' hb' ho' (by omega))
    | succ k ih =>
      intro o ho J hJ hD
      have hnl : ¬ nI (3 ^ pS p) ≤ nI o := nI_ge (by omega) (by omega)
      refine g12090_99 (fun h => absurd h hnl) (fun _ => ?_)
      exact h112 a b o ha hb (by omega) (fun J' g1 g2 => ih (o + 1) (by omega) J' g1 g2) J hJ hD (pS p) 0 (by omega)
  have h87 : ∀ a, a < pR p → (∀ J, qRv I J → (∀ a' b' o', a' < pR p → b' < pR p → o' < 3 ^ pS p → a' < a + 1 → J 98 (sp a' b' o') = moN o' (pS p)) → X (d + 3) 0 0 12090 0 0 75 [some (.ref 73), some (.int (nI m1)), some (.int (nI m2)), some (.int (nI n)), some (.int e), some (.int (nI (3 ^ pS p))), some (.int (nI (a + 1))), none, none, none, none, none] [] (K, J, L, R, sz) Q) →
      ∀ (k b : Nat), b + k = pR p → ∀ J, qRv I J → (∀ a' b' o', a' < pR p → b' < pR p → o' < 3 ^ pS p → (a' < a ∨ (a' = a ∧ b' < b)) → J 98 (sp a' b' o') = moN o' (pS p)) → X (d + 3) 0 0 12090 0 0 87 [some (.ref 73), some (.int (nI m1)), some (.int (nI m2)), some (.int (nI n)), some (.int e), some (.int (nI (3 ^ pS p))), some (.int (nI a)), some (.int (nI b)), none, none, none, none] [] (K, J, L, R, sz) Q := by
    intro a ha hnx k
    induction k with
    | zero =>
      intro b hb J hJ hD
      have hle : J 73 23 ≤ nI b := by rw [zR J hJ]; exact nI_le (by omega) (by omega)
      refine g12090_87 hK (fun _ => ?_) (fun h => absurd hle h)
      rw [nI_1]
      exact hnx J hJ (fun a' b' o' ha' hb' ho' hc => hD a' b' o' ha' hb' ho' (by omega))
    | succ k ih =>
      intro b hb J hJ hD
      have hnl : ¬ J 73 23 ≤ nI b := by rw [zR J hJ]; exact nI_ge (by omega) (by omega)
      refine g12090_87 hK (fun h => absurd h hnl) (fun _ => ?_)
      exact h99 a b ha (by omega) (fun J' g1 g2 => ih (b + 1) (by omega) J' g1 g2) (3 ^ pS p) 0 (by omega) J hJ (fun a' b' o' ha' hb' ho' hc => hD a' b' o' ha' hb' ho' (by omega))
  have h75 : ∀ (k a : Nat), a + k = pR p → ∀ J, qRv I J → (∀ a' b' o', a' < pR p → b' < pR p → o' < 3 ^ pS p → a' < a → J 98 (sp a' b' o') = moN o' (pS p)) → X (d + 3) 0 0 12090 0 0 75 [some (.ref 73), some (.int (nI m1)), some (.int (nI m2)), some (.int (nI n)), some (.int e), some (.int (nI (3 ^ pS p))), some (.int (nI a)), none, none, none, none, none] [] (K, J, L, R, sz) Q := by
    intro k
    induction k with
    | zero =>
      intro a ha J hJ hD
      have hle : J 73 23 ≤ nI a := by rw [zR J hJ]; exact nI_le (by omega) (by omega)
      refine g12090_75 hK (fun _ => ?_) (fun h => absurd hle h)
      rw [show (2 : Int32) = nI 2 from rfl, pk_mul, show (1 : Int32) = nI 1 from rfl, pk_sub (by omega)]
      refine h208 (2 * n - 1) (Nat.le_refl _) J hJ ?_
      rw [Nat.sub_self]
      intro a' b' o' ha' hb' ho'
      exact hD a' b' o' ha' hb' ho' (by omega)
    | succ k ih =>
      intro a ha J hJ hD
      have hnl : ¬ J 73 23 ≤ nI a := by rw [zR J hJ]; exact nI_ge (by omega) (by omega)
      refine g12090_75 hK (fun h => absurd h hnl) (fun _ => ?_)
      exact h87 a (by omega) (fun J' g1 g2 => ih (a + 1) (by omega) J' g1 g2) (pR p) 0 (by omega) J hJ (fun a' b' o' ha' hb' ho' hc => hD a' b' o' ha' hb' ho' (by omega))
  have h51 : ∀ (k s : Nat), s + k = pS p → X (d + 3) 0 0 12090 0 0 51 [some (.ref 73), some (.int (nI m1)), some (.int (nI m2)), some (.int (nI n)), some (.int e), some (.int (nI (3 ^ s))), some (.int (nI s)), none, none, none, none, none] [] (K, I, L, R, sz) Q := by
    intro k
    induction k with
    | zero =>
      intro s hs
      have hle : I 73 24 ≤ nI s := by rw [lS]; exact nI_le (by omega) (by omega)
      have : s = pS p := by omega
      subst this
      exact g12090_51 hK (fun _ => h75 (pR p) 0 (by omega) I qFr.refl (fun a' b' o' _ _ _ hc => absurd hc (by omega))) (fun h => absurd hle h)
    | succ k ih =>
      intro s hs
      have hnl : ¬ I 73 24 ≤ nI s := by rw [lS]; exact nI_ge (by omega) (by omega)
      refine g12090_51 hK (fun h => absurd h hnl) (fun _ => ?_)
      rw [nI_1, show (3 : Int32) = nI 3 from rfl, pk_mul, ← Nat.pow_succ]
      exact ih (s + 1) (by omega)
  exact h51 (pS p) 0 (by omega)

end L92
