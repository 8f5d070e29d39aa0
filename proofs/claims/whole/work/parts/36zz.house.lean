/-! the reference reads houses: what is said; numbers -/
abbrev yAt (j k : Nat) : Prop := j = 73 ∧ (k = 3 ∨ k = 4)
abbrev yFc (j k : Nat) : Prop := (j = 73 ∧ (k = 3 ∨ k = 4 ∨ (20 ≤ k ∧ k ≤ 22))) ∨ j = 84
abbrev yS (b : Nat → Int32) (n : Nat) (I : Nat → Nat → Int32) (k : Nat) : Prop := rTt b n I k ∧ I 73 4 = -1
def yO (P : Nat → Nat → Prop) (b : Nat → Int32) (n : Nat) (I : Nat → Nat → Int32) (k : Nat) (J : Nat → Nat → Int32) : Prop := qFr P I J ∧ yS b n J k
def yX (P : Nat → Nat → Prop) (b : Nat → Int32) (n : Nat) (I : Nat → Nat → Int32) (k : Nat) (J : Nat → Nat → Int32) : Prop := qFr P I J ∧ rTt b n J k ∧ J 73 4 = nI k
def yLk (b : Nat → Int32) (n : Nat) (I J : Nat → Nat → Int32) : Prop := ∃ k, rTt b n I k ∧ J = va_up I 73 (upd (I 73) 3 (nI (nx b n k)))
def yBd (b : Nat → Int32) (n : Nat) (I J : Nat → Nat → Int32) : Prop := ∃ k, yS b n I k ∧ J = va_up I 73 (upd (I 73) 4 (nI k))
def yNy (b : Nat → Int32) (n : Nat) (I : Nat → Nat → Int32) (lo hi v : Int32) (J : Nat → Nat → Int32) : Prop := ∃ k k', yS b n I k ∧ gNum b n 2 lo hi k = (k', some v) ∧ yO yAt b n I k' J
def yNn (b : Nat → Int32) (n : Nat) (I : Nat → Nat → Int32) (lo hi : Int32) (J : Nat → Nat → Int32) : Prop := ∃ k k', yS b n I k ∧ gNum b n 2 lo hi k = (k', none) ∧ yX yAt b n I k' J
section L36zz
variable {d : Nat} {K : qK} {I : Nat → Nat → Int32} {L : Nat → Nat → Int64} {R : Nat → Nat → Option Nat} {sz : Nat} {Q : Option Value → qMem → Prop} {b : Nat → Int32} {n : Nat}
variable {J M : Nat → Nat → Int32} {k : Nat}
theorem rTt.uq {k' : Nat} (S : rTt b n I k) (h : rTt b n I k') : k' = k := by
  have h1 : n ≤ 160 := S.1.2.1
  have h2 := S.2.2
  have h3 := h.2.2
  exact nI_h (by omega) (by omega) (by rw [← S.2.1, ← h.2.1])
theorem rTt.tb (S : rTt b n I k) : qTb b n := S.1.2.2.2
theorem rTt_fr {P : Nat → Nat → Prop} (h2 : ¬ P 73 2) (h4 : ∀ i, ¬ P 74 i) (S : rTp b n I) (f : qFr P I J) : rTp b n J := ⟨(f 73 2 h2).trans S.1, S.2.1, fun i hi => (f 74 i (h4 i)).trans (S.2.2.1 i hi), S.2.2.2⟩
theorem yAt_2 : ¬ yAt 73 2 := fun q => by rcases q.2 with q | q <;> exact absurd q (by decide)
theorem yAt_4 : ∀ i, ¬ yAt 74 i := fun i q => absurd q.1 (by decide)
theorem rTt_at {k' : Nat} (S : rTt b n I k) (hk : k' ≤ n) : rTt b n (va_up I 73 (upd (I 73) 3 (nI k'))) k' ∧ qFr yAt I (va_up I 73 (upd (I 73) 3 (nI k'))) ∧ va_up I 73 (upd (I 73) 3 (nI k')) 73 4 = I 73 4 := by
  have f : qFr yAt I (va_up I 73 (upd (I 73) 3 (nI k'))) := qFr.up1 ⟨rfl, Or.inl rfl⟩
  refine ⟨⟨rTt_fr yAt_2 yAt_4 S.1 f, up_at, hk⟩, f, ?_⟩
  rw [vu_s]; unfold upd; rw [if_neg (by decide)]
theorem rTt_inc (S : rTt b n I k) (hk : k < n) (e : J = va_up I 73 (upd (I 73) 3 ((I 73 3) + 1))) : rTt b n J (k + 1) ∧ qFr yAt I J ∧ J 73 4 = I 73 4 := by
  rw [e, S.2.1, nI_1]; exact rTt_at S (by omega)
theorem rTt_dec (S : rTt b n I k) (hk : 0 < k) (e : J = va_up I 73 (upd (I 73) 3 ((I 73 3) - 1))) : rTt b n J (k - 1) ∧ qFr yAt I J ∧ J 73 4 = I 73 4 := by
  have h1 : n ≤ 160 := S.1.2.1
  have h2 := S.2.2
  rw [e, S.2.1, show (1 : Int32) = nI 1 from rfl, pk_sub (by omega)]; exact rTt_at S (by omega)
theorem yLk.at (S : rTt b n I k) (h : yLk b n I J) : rTt b n J (nx b n k) ∧ qFr yAt I J ∧ J 73 4 = I 73 4 := by
  obtain ⟨k0, h1, h2⟩ := h
  obtain rfl := S.uq h1
  rw [h2]; exact rTt_at S (nx_le S.tb S.2.2)
theorem yBd.at (S : rTt b n I k) (h : yBd b n I J) : yX yAt b n I k J := by
  obtain ⟨k0, h1, h2⟩ := h
  obtain rfl := S.uq h1.1
  have f : qFr yAt I (va_up I 73 (upd (I 73) 4 (nI k0))) := qFr.up1 ⟨rfl, Or.inr rfl⟩
  rw [h2]
  refine ⟨f, ⟨rTt_fr yAt_2 yAt_4 S.1 f, ?_, S.2.2⟩, up_at⟩
  rw [vu_s]; unfold upd; rw [if_neg (by decide)]; exact S.2.1
theorem rVt_at (S : rTt b n I k) : rV b n I = b (nx b n k) := by
  have h1 : n ≤ 160 := S.1.2.1
  have h2 := S.2.2
  unfold rV; rw [S.2.1, nI_c (by omega)]
theorem hVr_at (S : rTt b n I k) : hV b I = b k := by
  have h1 : n ≤ 160 := S.1.2.1
  have h2 := S.2.2
  unfold hV; rw [S.2.1, nI_c (by omega)]
theorem yO.tr {P : Nat → Nat → Prop} {k2 : Nat} (h : yO P b n I k J) (g : yO P b n J k2 M) : yO P b n I k2 M := ⟨h.1.trans g.1, g.2⟩
theorem yO.trX {P : Nat → Nat → Prop} {k2 : Nat} (h : yO P b n I k J) (g : yX P b n J k2 M) : yX P b n I k2 M := ⟨h.1.trans g.1, g.2⟩
theorem yO.mo {P P' : Nat → Nat → Prop} (h : yO P b n I k J) (q : ∀ j k, P j k → P' j k) : yO P' b n I k J := ⟨h.1.mono q, h.2⟩
theorem yX.mo {P P' : Nat → Nat → Prop} (h : yX P b n I k J) (q : ∀ j k, P j k → P' j k) : yX P' b n I k J := ⟨h.1.mono q, h.2⟩
theorem y12008 (hK : qLay K sz) (hR : qRef R) (h : ∃ k, rTt b n I k) (hq : ∀ J, yLk b n I J → Q (some (.int (rV b n I))) (K, J, L, R, sz)) : X (d + 1) 0 0 12008 0 0 0 (qent (qml 12008) [.ref 73]) [] (K, I, L, R, sz) Q := by
  obtain ⟨k, S⟩ := h
  refine s12008 hK hR S ?_
  rw [← rVt_at S]
  exact hq _ ⟨k, S, rfl⟩
theorem y12007 (hK : qLay K sz) (hR : qRef R) (h : ∃ k, rTt b n I k) (hq : Q (some (.int (hV b I))) (K, I, L, R, sz)) : X d 0 0 12007 0 0 0 (qent (qml 12007) [.ref 73]) [] (K, I, L, R, sz) Q := by
  obtain ⟨k, S⟩ := h
  rw [hVr_at S] at hq
  exact s12007 hK hR S hq
theorem y12009 (hK : qLay K sz) (h : ∃ k, yS b n I k) (hq : ∀ J, yBd b n I J → Q none (K, J, L, R, sz)) : X d 0 0 12009 0 0 0 (qent (qml 12009) [.ref 73]) [] (K, I, L, R, sz) Q := by
  obtain ⟨k, S⟩ := h
  refine t12009 hK (fun _ => hq _ ⟨k, S, by rw [S.1.2.1]⟩) (fun q => absurd S.2 q)
theorem e12036 {lo : Int32} {hi : Int32}  (hK : qLay K sz) (hR : qRef R) (b1 : ∃ k, rTt b n I k) (b2 : ∀ I1 : Nat → Nat → Int32, yLk b n I I1 → qDig (rV b n I) → ∃ k, rTt b n I1 k) (b3 : ∀ I1 : Nat → Nat → Int32, yLk b n I I1 → qDig (rV b n I) → ∀ I4 : Nat → Nat → Int32, I4 = va_up I1 73 (upd (I1 73) 3 ((I1 73 3) + 1)) → ∃ k, rTt b n I4 k) (b4 : ∀ I1 : Nat → Nat → Int32, yLk b n I I1 → qDig (rV b n I) → ∀ I4 : Nat → Nat → Int32, I4 = va_up I1 73 (upd (I1 73) 3 ((I1 73 3) + 1)) → qDig (hV b I4) → ∀ I7 : Nat → Nat → Int32, I7 = va_up I4 73 (upd (I4 73) 3 ((I4 73 3) + 1)) → ∃ k, rTt b n I7 k) (b5 : ∀ I1 : Nat → Nat → Int32, yLk b n I I1 → qDig (rV b n I) → ∀ I4 : Nat → Nat → Int32, I4 = va_up I1 73 (upd (I1 73) 3 ((I1 73 3) + 1)) → qDig (hV b I4) → ∀ I7 : Nat → Nat → Int32, I7 = va_up I4 73 (upd (I4 73) 3 ((I4 73 3) + 1)) → qDig (hV b I7) → ∃ k, yS b n I7 k) (b6 : ∀ I1 : Nat → Nat → Int32, yLk b n I I1 → qDig (rV b n I) → ∀ I4 : Nat → Nat → Int32, I4 = va_up I1 73 (upd (I1 73) 3 ((I1 73 3) + 1)) → qDig (hV b I4) → ∀ I7 : Nat → Nat → Int32, I7 = va_up I4 73 (upd (I4 73) 3 ((I4 73 3) + 1)) → ¬ qDig (hV b I7) → ¬ (lo ≤ (((10 * ((hV b I1) - 48)) + (hV b I4)) - 48) ∧ (((10 * ((hV b I1) - 48)) + (hV b I4)) - 48) ≤ hi) → ∀ I16 : Nat → Nat → Int32, I16 = va_up I7 73 (upd (I7 73) 3 ((I7 73 3) - 1)) → ∃ k, yS b n I16 k) (b7 : ∀ I1 : Nat → Nat → Int32, yLk b n I I1 → qDig (rV b n I) → ∀ I4 : Nat → Nat → Int32, I4 = va_up I1 73 (upd (I1 73) 3 ((I1 73 3) + 1)) → ¬ qDig (hV b I4) → ¬ (lo ≤ ((hV b I1) - 48) ∧ ((hV b I1) - 48) ≤ hi) → ∀ I26 : Nat → Nat → Int32, I26 = va_up I4 73 (upd (I4 73) 3 ((I4 73 3) - 1)) → ∃ k, yS b n I26 k) (b8 : ∀ I1 : Nat → Nat → Int32, yLk b n I I1 → ¬ qDig (rV b n I) → ∃ k, yS b n I1 k) (q1 : ∀ I1 : Nat → Nat → Int32, yLk b n I I1 → qDig (rV b n I) → ∀ I4 : Nat → Nat → Int32, I4 = va_up I1 73 (upd (I1 73) 3 ((I1 73 3) + 1)) → qDig (hV b I4) → ∀ I7 : Nat → Nat → Int32, I7 = va_up I4 73 (upd (I4 73) 3 ((I4 73 3) + 1)) → qDig (hV b I7) → ∀ I10 : Nat → Nat → Int32, yBd b n I7 I10 → Q (some (.int (((10 * ((hV b I1) - 48)) + (hV b I4)) - 48))) (K, I10, L, R, sz)) (q2 : ∀ I1 : Nat → Nat → Int32, yLk b n I I1 → qDig (rV b n I) → ∀ I4 : Nat → Nat → Int32, I4 = va_up I1 73 (upd (I1 73) 3 ((I1 73 3) + 1)) → qDig (hV b I4) → ∀ I7 : Nat → Nat → Int32, I7 = va_up I4 73 (upd (I4 73) 3 ((I4 73 3) + 1)) → ¬ qDig (hV b I7) → lo ≤ (((10 * ((hV b I1) - 48)) + (hV b I4)) - 48) → (((10 * ((hV b I1) - 48)) + (hV b I4)) - 48) ≤ hi → Q (some (.int (((10 * ((hV b I1) - 48)) + (hV b I4)) - 48))) (K, I7, L, R, sz)) (q3 : ∀ I1 : Nat → Nat → Int32, yLk b n I I1 → qDig (rV b n I) → ∀ I4 : Nat → Nat → Int32, I4 = va_up I1 73 (upd (I1 73) 3 ((I1 73 3) + 1)) → qDig (hV b I4) → ∀ I7 : Nat → Nat → Int32, I7 = va_up I4 73 (upd (I4 73) 3 ((I4 73 3) + 1)) → ¬ qDig (hV b I7) → ¬ (lo ≤ (((10 * ((hV b I1) - 48)) + (hV b I4)) - 48) ∧ (((10 * ((hV b I1) - 48)) + (hV b I4)) - 48) ≤ hi) → ∀ I16 : Nat → Nat → Int32, I16 = va_up I7 73 (upd (I7 73) 3 ((I7 73 3) - 1)) → ∀ I18 : Nat → Nat → Int32, yBd b n I16 I18 → Q (some (.int (((10 * ((hV b I1) - 48)) + (hV b I4)) - 48))) (K, I18, L, R, sz)) (q4 : ∀ I1 : Nat → Nat → Int32, yLk b n I I1 → qDig (rV b n I) → ∀ I4 : Nat → Nat → Int32, I4 = va_up I1 73 (upd (I1 73) 3 ((I1 73 3) + 1)) → ¬ qDig (hV b I4) → lo ≤ ((hV b I1) - 48) → ((hV b I1) - 48) ≤ hi → Q (some (.int ((hV b I1) - 48))) (K, I4, L, R, sz)) (q5 : ∀ I1 : Nat → Nat → Int32, yLk b n I I1 → qDig (rV b n I) → ∀ I4 : Nat → Nat → Int32, I4 = va_up I1 73 (upd (I1 73) 3 ((I1 73 3) + 1)) → ¬ qDig (hV b I4) → ¬ (lo ≤ ((hV b I1) - 48) ∧ ((hV b I1) - 48) ≤ hi) → ∀ I26 : Nat → Nat → Int32, I26 = va_up I4 73 (upd (I4 73) 3 ((I4 73 3) - 1)) → ∀ I28 : Nat → Nat → Int32, yBd b n I26 I28 → Q (some (.int ((hV b I1) - 48))) (K, I28, L, R, sz)) (q6 : ∀ I1 : Nat → Nat → Int32, yLk b n I I1 → ¬ qDig (rV b n I) → ∀ I31 : Nat → Nat → Int32, yBd b n I1 I31 → Q (some (.int lo)) (K, I31, L, R, sz)) : X (d + 2) 0 0 12036 0 0 0 (qent (qml 12036) [.ref 73, .int lo, .int hi]) [] (K, I, L, R, sz) Q := show X _ 0 0 12036 0 0 0 [some (.ref 73), some (.int lo), some (.int hi), none] [] _ _ from x_ald0 k12036_0 <| x_cV0 (MCz := 0) (MSz := 0) k12036_1 v12_145_11 (hK.at rfl) (Nat.le_of_ble_eq_true rfl) (Nat.le_of_ble_eq_true rfl) (Nat.le_refl _) (Nat.le_refl _) <| y12008 hK hR b1 (fun I1 g2 => x_cS1 (MCz := 0) (MSz := 0) k12036_4 s12_148 (Nat.le_of_ble_eq_true rfl) (Nat.le_of_ble_eq_true rfl) (Nat.le_refl _) (Nat.le_refl _) <| r12010 (fun g3 => x_ifneT (tgt := 16) k12036_7 (by decide) (show ¬ (1 : Int32) = 0 by decide) <| x_ald0 k12036_16 <| x_cV0 (MCz := 0) (MSz := 0) k12036_17 v12_129_11 (hK.at rfl) (Nat.le_of_ble_eq_true rfl) (Nat.le_of_ble_eq_true rfl) (Nat.le_refl _) (Nat.le_refl _) <| y12007 hK hR (b2 I1 g2 g3) (x_bipush (v := 48) k12036_20 rfl <| x_isub k12036_22 <| x_ist3 k12036_23 (Nat.le_of_ble_eq_true rfl) rfl <| x_ald0 k12036_24 <| x_dup k12036_25 rfl <| x_getI k12036_26 f12_126_11 (hK.at rfl) rfl <| x_iconst (v := 1) k12036_29 rfl <| x_iadd k12036_30 <| x_putI k12036_31 f12_126_11 (Or.inl rfl) (hK.at rfl) <| x_nm fun I4 e5 => x_ald0 k12036_34 <| x_cV0 (MCz := 0) (MSz := 0) k12036_35 v12_129_11 (hK.at rfl) (Nat.le_of_ble_eq_true rfl) (Nat.le_of_ble_eq_true rfl) (Nat.le_refl _) (Nat.le_refl _) <| y12007 hK hR (b3 I1 g2 g3 I4 e5) (x_cS1 (MCz := 0) (MSz := 0) k12036_38 s12_148 (Nat.le_of_ble_eq_true rfl) (Nat.le_of_ble_eq_true rfl) (Nat.le_refl _) (Nat.le_refl _) <| r12010 (fun g6 => x_ifeqF (tgt := 67) k12036_41 (by decide) (show ¬ (1 : Int32) = 0 by decide) <| x_bipush (v := 10) k12036_44 rfl <| x_ild3 k12036_46 <| x_imul k12036_47 <| x_ald0 k12036_48 <| x_cV0 (MCz := 0) (MSz := 0) k12036_49 v12_129_11 (hK.at rfl) (Nat.le_of_ble_eq_true rfl) (Nat.le_of_ble_eq_true rfl) (Nat.le_refl _) (Nat.le_refl _) <| y12007 hK hR (b3 I1 g2 g3 I4 e5) (x_iadd k12036_52 <| x_bipush (v := 48) k12036_53 rfl <| x_isub k12036_55 <| x_ist3 k12036_56 (Nat.le_of_ble_eq_true rfl) rfl <| x_ald0 k12036_57 <| x_dup k12036_58 rfl <| x_getI k12036_59 f12_126_11 (hK.at rfl) rfl <| x_iconst (v := 1) k12036_62 rfl <| x_iadd k12036_63 <| x_putI k12036_64 f12_126_11 (Or.inl rfl) (hK.at rfl) <| x_nm fun I7 e8 => x_ald0 k12036_67 <| x_cV0 (MCz := 0) (MSz := 0) k12036_68 v12_129_11 (hK.at rfl) (Nat.le_of_ble_eq_true rfl) (Nat.le_of_ble_eq_true rfl) (Nat.le_refl _) (Nat.le_refl _) <| y12007 hK hR (b4 I1 g2 g3 I4 e5 g6 I7 e8) (x_cS1 (MCz := 0) (MSz := 0) k12036_71 s12_148 (Nat.le_of_ble_eq_true rfl) (Nat.le_of_ble_eq_true rfl) (Nat.le_refl _) (Nat.le_refl _) <| r12010 (fun g9 => x_ifeqF (tgt := 84) k12036_74 (by decide) (show ¬ (1 : Int32) = 0 by decide) <| x_ald0 k12036_77 <| x_cV0 (MCz := 0) (MSz := 0) k12036_78 v12_142_11 (hK.at rfl) (Nat.le_of_ble_eq_true rfl) (Nat.le_of_ble_eq_true rfl) (Nat.le_refl _) (Nat.le_refl _) <| y12009 hK (b5 I1 g2 g3 I4 e5 g6 I7 e8 g9) (fun I10 g11 => x_goto (tgt := 107) k12036_81 (by decide) <| x_ild3 k12036_107 <| x_iret k12036_108 rfl (Nat.le_refl _) (Nat.le_refl _) <| (q1 I1 g2 g3 I4 e5 g6 I7 e8 g9 I10 g11))) (fun g12 => x_ifeqT (tgt := 84) k12036_74 (by decide) (show (0 : Int32) = 0 by decide) <| x_ild3 k12036_84 <| x_ild1 k12036_85 <| x_ild2 k12036_86 <| x_cS3 (MCz := 0) (MSz := 0) k12036_87 s12_231 (Nat.le_of_ble_eq_true rfl) (Nat.le_of_ble_eq_true rfl) (Nat.le_refl _) (Nat.le_refl _) <| t12000 (fun g13 g14 => x_ifneT (tgt := 107) k12036_90 (by decide) (show ¬ (1 : Int32) = 0 by decide) <| x_ild3 k12036_107 <| x_iret k12036_108 rfl (Nat.le_refl _) (Nat.le_refl _) <| (q2 I1 g2 g3 I4 e5 g6 I7 e8 g12 g13 g14)) (fun g15 => x_ifneF (tgt := 107) k12036_90 (by decide) (show (0 : Int32) = 0 by decide) <| x_ald0 k12036_93 <| x_dup k12036_94 rfl <| x_getI k12036_95 f12_126_11 (hK.at rfl) rfl <| x_iconst (v := 1) k12036_98 rfl <| x_isub k12036_99 <| x_putI k12036_100 f12_126_11 (Or.inl rfl) (hK.at rfl) <| x_nm fun I16 e17 => x_ald0 k12036_103 <| x_cV0 (MCz := 0) (MSz := 0) k12036_104 v12_142_11 (hK.at rfl) (Nat.le_of_ble_eq_true rfl) (Nat.le_of_ble_eq_true rfl) (Nat.le_refl _) (Nat.le_refl _) <| y12009 hK (b6 I1 g2 g3 I4 e5 g6 I7 e8 g12 g15 I16 e17) (fun I18 g19 => x_ild3 k12036_107 <| x_iret k12036_108 rfl (Nat.le_refl _) (Nat.le_refl _) <| (q3 I1 g2 g3 I4 e5 g6 I7 e8 g12 g15 I16 e17 I18 g19))))))) (fun g20 => x_ifeqT (tgt := 67) k12036_41 (by decide) (show (0 : Int32) = 0 by decide) <| x_ald0 k12036_67 <| x_cV0 (MCz := 0) (MSz := 0) k12036_68 v12_129_11 (hK.at rfl) (Nat.le_of_ble_eq_true rfl) (Nat.le_of_ble_eq_true rfl) (Nat.le_refl _) (Nat.le_refl _) <| y12007 hK hR (b3 I1 g2 g3 I4 e5) (x_cS1 (MCz := 0) (MSz := 0) k12036_71 s12_148 (Nat.le_of_ble_eq_true rfl) (Nat.le_of_ble_eq_true rfl) (Nat.le_refl _) (Nat.le_refl _) <| r12010 (fun g21 => absurd g21 g20) (fun g22 => x_ifeqT (tgt := 84) k12036_74 (by decide) (show (0 : Int32) = 0 by decide) <| x_ild3 k12036_84 <| x_ild1 k12036_85 <| x_ild2 k12036_86 <| x_cS3 (MCz := 0) (MSz := 0) k12036_87 s12_231 (Nat.le_of_ble_eq_true rfl) (Nat.le_of_ble_eq_true rfl) (Nat.le_refl _) (Nat.le_refl _) <| t12000 (fun g23 g24 => x_ifneT (tgt := 107) k12036_90 (by decide) (show ¬ (1 : Int32) = 0 by decide) <| x_ild3 k12036_107 <| x_iret k12036_108 rfl (Nat.le_refl _) (Nat.le_refl _) <| (q4 I1 g2 g3 I4 e5 g20 g23 g24)) (fun g25 => x_ifneF (tgt := 107) k12036_90 (by decide) (show (0 : Int32) = 0 by decide) <| x_ald0 k12036_93 <| x_dup k12036_94 rfl <| x_getI k12036_95 f12_126_11 (hK.at rfl) rfl <| x_iconst (v := 1) k12036_98 rfl <| x_isub k12036_99 <| x_putI k12036_100 f12_126_11 (Or.inl rfl) (hK.at rfl) <| x_nm fun I26 e27 => x_ald0 k12036_103 <| x_cV0 (MCz := 0) (MSz := 0) k12036_104 v12_142_11 (hK.at rfl) (Nat.le_of_ble_eq_true rfl) (Nat.le_of_ble_eq_true rfl) (Nat.le_refl _) (Nat.le_refl _) <| y12009 hK (b7 I1 g2 g3 I4 e5 g20 g25 I26 e27) (fun I28 g29 => x_ild3 k12036_107 <| x_iret k12036_108 rfl (Nat.le_refl _) (Nat.le_refl _) <| (q5 I1 g2 g3 I4 e5 g20 g25 I26 e27 I28 g29))))))))) (fun g30 => x_ifneF (tgt := 16) k12036_7 (by decide) (show (0 : Int32) = 0 by decide) <| x_ald0 k12036_10 <| x_cV0 (MCz := 0) (MSz := 0) k12036_11 v12_142_11 (hK.at rfl) (Nat.le_of_ble_eq_true rfl) (Nat.le_of_ble_eq_true rfl) (Nat.le_refl _) (Nat.le_refl _) <| y12009 hK (b8 I1 g2 g30) (fun I31 g32 => x_ild1 k12036_14 <| x_iret k12036_15 rfl (Nat.le_refl _) (Nat.le_refl _) <| (q6 I1 g2 g30 I31 g32))))
theorem gNum_f {lo hi : Int32} {k k2 : Nat} {v : Int32} (h : qDig (b (nx b n k))) (e : gDg b 2 0 (nx b n k) = (k2, some v)) : gNum b n 2 lo hi k = if v < lo ∨ hi < v then (k2 - 1, none) else (k2, some v) := by
  unfold gNum; rw [if_pos h, e]; rfl
theorem s12036 {lo hi : Int32} (hK : qLay K sz) (hR : qRef R) (S : yS b n I k) (hok : ∀ J k' v, gNum b n 2 lo hi k = (k', some v) → yO yAt b n I k' J → Q (some (.int v)) (K, J, L, R, sz)) (hbad : ∀ J k' v, gNum b n 2 lo hi k = (k', none) → yX yAt b n I k' J → Q (some (.int v)) (K, J, L, R, sz)) : X (d + 2) 0 0 12036 0 0 0 (qent (qml 12036) [.ref 73, .int lo, .int hi]) [] (K, I, L, R, sz) Q := by
  have hb := S.1.tb
  have eV := rVt_at S.1
  have st1 : ∀ {I1 : Nat → Nat → Int32}, yLk b n I I1 → rTt b n I1 (nx b n k) ∧ qFr yAt I I1 ∧ I1 73 4 = -1 := fun g => by
    have := g.at S.1; exact ⟨this.1, this.2.1, this.2.2.trans S.2⟩
  have hl : qDig (rV b n I) → nx b n k < n := fun h => hb.lt (qDig_n (by rw [eV] at h; exact h))
  have st4 : ∀ {I1 I4 : Nat → Nat → Int32}, yLk b n I I1 → qDig (rV b n I) → I4 = va_up I1 73 (upd (I1 73) 3 ((I1 73 3) + 1)) → rTt b n I4 (nx b n k + 1) ∧ qFr yAt I I4 ∧ I4 73 4 = -1 := fun g h e => by
    have s1 := st1 g
    have := rTt_inc s1.1 (hl h) e
    exact ⟨this.1, s1.2.1.trans this.2.1, this.2.2.trans s1.2.2⟩
  have hl2 : ∀ {I4 : Nat → Nat → Int32}, rTt b n I4 (nx b n k + 1) → qDig (hV b I4) → nx b n k + 1 < n := fun T h => hb.lt (qDig_n (by rw [hVr_at T] at h; exact h))
  have st7 : ∀ {I1 I4 I7 : Nat → Nat → Int32}, yLk b n I I1 → qDig (rV b n I) → I4 = va_up I1 73 (upd (I1 73) 3 ((I1 73 3) + 1)) → qDig (hV b I4) → I7 = va_up I4 73 (upd (I4 73) 3 ((I4 73 3) + 1)) → rTt b n I7 (nx b n k + 2) ∧ qFr yAt I I7 ∧ I7 73 4 = -1 := fun g h e h2 e7 => by
    have s4 := st4 g h e
    have := rTt_inc s4.1 (hl2 s4.1 h2) e7
    exact ⟨this.1, s4.2.1.trans this.2.1, this.2.2.trans s4.2.2⟩
  have e1 : ∀ {I1 : Nat → Nat → Int32}, yLk b n I I1 → hV b I1 = b (nx b n k) := fun g => hVr_at (st1 g).1
  have n0 : ∀ x : Int32, 0 * 10 + x - 48 = x - 48 := fun x => by rw [Int32.zero_mul, Int32.zero_add]
  have g1 : qDig (b (nx b n k)) → ¬ qDig (b (nx b n k + 1)) → gDg b 2 0 (nx b n k) = (nx b n k + 1, some (b (nx b n k) - 48)) := fun h h2 => by rw [gDg, if_pos h, gDg, if_neg h2, n0]
  have g2 : qDig (b (nx b n k)) → qDig (b (nx b n k + 1)) → ¬ qDig (b (nx b n k + 2)) → gDg b 2 0 (nx b n k) = (nx b n k + 2, some (10 * (b (nx b n k) - 48) + b (nx b n k + 1) - 48)) := fun h h2 h3 => by rw [gDg, if_pos h, gDg, if_pos h2, gDg, if_neg h3, n0, Int32.mul_comm]
  have g3 : qDig (b (nx b n k)) → qDig (b (nx b n k + 1)) → qDig (b (nx b n k + 2)) → gDg b 2 0 (nx b n k) = (nx b n k + 2, none) := fun h h2 h3 => by rw [gDg, if_pos h, gDg, if_pos h2, gDg, if_pos h3]
  have or1 : ∀ {v : Int32}, ¬ (lo ≤ v ∧ v ≤ hi) → v < lo ∨ hi < v := fun {v} h => by
    by_cases q : lo ≤ v
    · exact Or.inr (Int32.not_le.mp (fun w => h ⟨q, w⟩))
    · exact Or.inl (Int32.not_le.mp q)
  have or2 : ∀ {v : Int32}, lo ≤ v → v ≤ hi → ¬ (v < lo ∨ hi < v) := fun h1 h2 q => q.elim (Int32.not_lt.mpr h1) (Int32.not_lt.mpr h2)
  have dc : ∀ {I7 I16 : Nat → Nat → Int32} {z : Nat}, (rTt b n I7 (z + 1) ∧ qFr yAt I I7 ∧ I7 73 4 = -1) → I16 = va_up I7 73 (upd (I7 73) 3 ((I7 73 3) - 1)) → yO yAt b n I z I16 := fun s e => by
    have := rTt_dec s.1 (by omega) e
    exact ⟨s.2.1.trans this.2.1, this.1, this.2.2.trans s.2.2⟩
  refine e12036 (n := n) (b := b) hK hR ⟨k, S.1⟩ (fun I1 g h => ⟨_, (st1 g).1⟩) (fun I1 g h I4 e => ⟨_, (st4 g h e).1⟩) (fun I1 g h I4 e h4 I7 e7 => ⟨_, (st7 g h e h4 e7).1⟩) (fun I1 g h I4 e h4 I7 e7 h7 => ⟨_, (st7 g h e h4 e7).1, (st7 g h e h4 e7).2.2⟩) (fun I1 g h I4 e h4 I7 e7 h7 _ I16 e16 => ⟨_, (dc (z := nx b n k + 1) (st7 g h e h4 e7) e16).2⟩) (fun I1 g h I4 e h4 _ I26 e26 => ⟨_, (dc (st4 g h e) e26).2⟩) (fun I1 g h => ⟨_, (st1 g).1, (st1 g).2.2⟩) (fun I1 g h I4 e h4 I7 e7 h7 I10 gb => ?_) (fun I1 g h I4 e h4 I7 e7 h7 ha hb' => ?_) (fun I1 g h I4 e h4 I7 e7 h7 ha I16 e16 I18 gb => ?_) (fun I1 g h I4 e h4 ha hb' => ?_) (fun I1 g h I4 e h4 ha I26 e26 I28 gb => ?_) (fun I1 g h I31 gb => ?_)
  · have s4 := st4 g h e
    have s7 := st7 g h e h4 e7
    have gb' := gb.at s7.1
    rw [hVr_at s4.1] at h4
    rw [hVr_at s7.1] at h7
    rw [eV] at h
    exact hbad I10 (nx b n k + 2) _ (by unfold gNum; rw [if_pos h, g3 h h4 h7]; rfl) ⟨s7.2.1.trans gb'.1, gb'.2⟩
  · have s4 := st4 g h e
    have s7 := st7 g h e h4 e7
    rw [hVr_at s4.1] at h4
    rw [hVr_at s7.1] at h7
    rw [eV] at h
    rw [e1 g, hVr_at s4.1] at ha hb' ⊢
    exact hok I7 (nx b n k + 2) _ (by rw [gNum_f h (g2 h h4 h7), if_neg (or2 ha hb')]) ⟨s7.2.1, s7.1, s7.2.2⟩
  · have s4 := st4 g h e
    have s7 := st7 g h e h4 e7
    have s16 := dc (z := nx b n k + 1) s7 e16
    rw [hVr_at s4.1] at h4
    rw [hVr_at s7.1] at h7
    rw [eV] at h
    rw [e1 g, hVr_at s4.1] at ha
    exact hbad I18 (nx b n k + 1) _ (by rw [gNum_f h (g2 h h4 h7), if_pos (or1 ha)]; rfl) (s16.trX (gb.at s16.2.1))
  · have s4 := st4 g h e
    rw [hVr_at s4.1] at h4
    rw [eV] at h
    rw [e1 g] at ha hb' ⊢
    exact hok I4 (nx b n k + 1) _ (by rw [gNum_f h (g1 h h4), if_neg (or2 ha hb')]) ⟨s4.2.1, s4.1, s4.2.2⟩
  · have s4 := st4 g h e
    have s26 := dc s4 e26
    rw [hVr_at s4.1] at h4
    rw [eV] at h
    rw [e1 g] at ha
    exact hbad I28 (nx b n k) _ (by rw [gNum_f h (g1 h h4), if_pos (or1 ha)]; rfl) (s26.trX (gb.at s26.2.1))
  · have s1 := st1 g
    have gb' := gb.at s1.1
    rw [eV] at h
    exact hbad I31 (nx b n k) _ (by unfold gNum; rw [if_neg h]) ⟨s1.2.1.trans gb'.1, gb'.2⟩
theorem y12036 {lo hi : Int32} (hK : qLay K sz) (hR : qRef R) (h : ∃ k, yS b n I k) (hok : ∀ J v, yNy b n I lo hi v J → Q (some (.int v)) (K, J, L, R, sz)) (hbad : ∀ J v, yNn b n I lo hi J → Q (some (.int v)) (K, J, L, R, sz)) : X (d + 2) 0 0 12036 0 0 0 (qent (qml 12036) [.ref 73, .int lo, .int hi]) [] (K, I, L, R, sz) Q := by
  obtain ⟨k, S⟩ := h
  exact s12036 hK hR S (fun J k' v e g => hok J v ⟨k, k', S, e, g⟩) (fun J k' v e g => hbad J v ⟨k, k', S, e, g⟩)
theorem yNy.at {lo hi v : Int32} (S : yS b n I k) (h : yNy b n I lo hi v J) : ∃ k', gNum b n 2 lo hi k = (k', some v) ∧ yO yAt b n I k' J := by
  obtain ⟨k0, k', h1, h2⟩ := h
  obtain rfl := S.1.uq h1.1
  exact ⟨k', h2⟩
theorem yNn.at {lo hi : Int32} (S : yS b n I k) (h : yNn b n I lo hi J) : ∃ k', gNum b n 2 lo hi k = (k', none) ∧ yX yAt b n I k' J := by
  obtain ⟨k0, k', h1, h2⟩ := h
  obtain rfl := S.1.uq h1.1
  exact ⟨k', h2⟩
end L36zz
