/-! a question leaves every answer as it was -/
section L99u
variable {d : Nat} {K : qK} {I J : Nat → Nat → Int32} {L : Nat → Nat → Int64} {R : Nat → Nat → Option Nat} {sz : Nat} {Q : Option Value → qMem → Prop} {p : qPa}
theorem LE_q (cI : CI I p) (g : qAf I p J) : LEn J p = LEn I p := funext fun t => g.le cI t
theorem fOne_q {a b c : Int32} (cI : CI I p) (g : qAf I p J) : fOne (LEn J p) (mayC J) p a b c = fOne (LEn I p) (mayC I) p a b c := by
  have w5 := cI.w5
  rw [LE_q cI g]
  unfold fOne
  rw [btk_cong (v' := hvv (LEn I p b) (pS p) a a) (v := hvv (LEn I p b) (pS p) a a) (may' := mayC J a) (may := mayC I a) (bet := gtR) (n := pS p) (fun _ _ => rfl) (fun i hi => mayC_fr g.1 (by omega)) (pS p) (Nat.le_refl _)]
theorem fCut_q {a b c e : Int32} (cI : CI I p) (g : qAf I p J) : fCut (LEn J p) (mayC J) p a b c e = fCut (LEn I p) (mayC I) p a b c e := by
  have w5 := cI.w5
  rw [LE_q cI g]
  unfold fCut
  rw [btk_cong (v' := hvv (LEn I p c) (pS p) a b) (v := hvv (LEn I p c) (pS p) a b) (may' := mayC J a) (may := mayC I a) (bet := ltR) (n := pS p) (fun _ _ => rfl) (fun i hi => mayC_fr g.1 (by omega)) (pS p) (Nat.le_refl _)]
theorem fAll_q {a b c : Int32} (cI : CI I p) (g : qAf I p J) : fAll (LEn J p) (mayC J) p a b c = fAll (LEn I p) (mayC I) p a b c := by
  have w5 := cI.w5
  have h : alB (okA (LEn I p b) (mayC J a) (pS p) a) (2 ^ pS p) = alB (okA (LEn I p b) (mayC I a) (pS p) a) (2 ^ pS p) := alB_cong (fun z => okA_may (fun s hs => mayC_fr g.1 (by omega)) z) _
  rw [LE_q cI g]
  unfold fAll
  rw [h]
theorem wgS_wg {LE : Int32 → Nat → Int32} {w w' : Nat → Int32} {n : Nat} {m : Int32} {a k : Nat} : ∀ i, (∀ s, s < i → w' s = w s) → wgS LE w' n m a k i = wgS LE w n m a k i := by
  intro i
  induction i with
  | zero => intro _; rfl
  | succ i ih =>
    intro h
    rw [wgS, wgS, ih (fun s hs => h s (by omega)), h i (by omega)]
theorem fWages_q {m f t : Int32} (cI : CI I p) (g : qAf I p J) : fWages J p m f t = fWages I p m f t := by
  have w5 := cI.w5
  unfold fWages
  rw [LE_q cI g, wgS_wg (w' := fun s => J (24 + s) 2) (w := fun s => I (24 + s) 2) (pS p) (fun s hs => by show J (24 + s) 2 = I (24 + s) 2; rw [g.1.row (j := 24 + s) (scQ_no (by omega))])]
theorem fSwing_q {t w : Int32} (cI : CI I p) (g : qAf I p J) : fSwing J p t w = fSwing I p t w := by
  have h : swT J p t = swT I p t := by
    funext l
    unfold swT
    rw [LE_q cI g, LEw_fr g.1 cI]
  unfold fSwing
  rw [h]
theorem fCounted_q {a : Int32} (cI : CI I p) (g : qAf I p J) : fCounted J p a = fCounted I p a := by
  unfold fCounted
  by_cases q : qIn (pN p) a
  · have h : qCt J p a ↔ qCt I p a := by
      obtain ⟨k, hk, rfl⟩ := q
      have h40 := cI.2.1.2.1
      have hw : (I 53 k).toNatClampNeg < 5 := Nat.lt_of_lt_of_le (qIn_c (cI.2.1.2.2.1 k hk).2.1 cI.w5) cI.w5
      unfold qCt
      rw [nI_c (by omega), g.1.row (j := 52) (scQ_no (by omega)), g.1.row (j := 53) (scQ_no (by omega)), g.1.row (j := 54) (scQ_no (by omega))]
      exact qCnt_br (by unfold qBr; rw [g.1.row (j := 24 + (I 53 k).toNatClampNeg) (scQ_no (by omega))])
    rw [if_pos q, if_pos q]
    by_cases c : qCt I p a
    · rw [if_pos c, if_pos (h.mpr c)]
    · rw [if_neg c, if_neg (fun z => c (h.mp z))]
  · rw [if_neg q, if_neg q]
theorem plQ_q {a b v : Int32} (cI : CI I p) (hf : qFr scQ I J) (h : plQ I p a b v) : plQ J p a b v := by
  have w3 := cI.w3
  have w5 := cI.w5
  unfold plQ at h ⊢
  rcases h with h | h | ⟨h1, h2, h3⟩
  · exact Or.inl h
  · exact Or.inr (Or.inl h)
  · obtain ⟨m, hm, rfl⟩ := h2.1
    rw [nI_c (by omega)] at h3 ⊢
    rw [gQ_q hf (by omega) w5]
    exact Or.inr (Or.inr ⟨h1, h2, h3⟩)
theorem stnQ_q {a b v : Int32} (cI : CI I p) (hf : qFr scQ I J) (h : stnQ I p a b v) : stnQ J p a b v := by
  have w3 := cI.w3
  have w5 := cI.w5
  unfold stnQ at h ⊢
  rcases h with h | h | ⟨h1, h2, h3⟩
  · exact Or.inl h
  · exact Or.inr (Or.inl h)
  · obtain ⟨m, hm, rfl⟩ := h2.1
    rw [nI_c (by omega)] at h3 ⊢
    rw [gQ_q hf (by omega) w5]
    exact Or.inr (Or.inr ⟨h1, h2, h3⟩)
theorem fRuin_q {a : Int32} (cI : CI I p) (hf : qFr scQ I J) : fRuin J p a = fRuin I p a := by
  have w3 := cI.w3
  have w5 := cI.w5
  unfold fRuin
  by_cases q : qIn (pM p) a
  · obtain ⟨m, hm, rfl⟩ := q
    have h : ruV J p m = ruV I p m := by
      funext s
      unfold ruV
      rw [gQ_q hf (by omega) w5]
    rw [nI_c (by omega), gQ_q hf (by omega) w5, h]
  · rw [if_pos q, if_pos q]
end L99u
