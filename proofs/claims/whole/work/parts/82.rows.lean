/-! rows: the class's -/
section L82
variable {d : Nat} {K : qK} {I : Nat → Nat → Int32} {R : Nat → Nat → Option Nat} {sz : Nat} {Q : Option Value → qMem → Prop} {p : qPa}
noncomputable def rwC (I : Nat → Nat → Int32) (p : qPa) (n : Nat) : Nat := sm (fun x => wI (pS p) (rwT (pM p) (mayI I)) (rwL (pM p) (mayI I) (mtF (I 58))) n x * rwG (pS p) (mtF (I 58)) 0 x) (2 ^ pS p)
theorem dg_0 (s : Nat) : dg 0 s = 0 := by unfold dg; simp
theorem l8003d {x2 : Int32} {L : Nat → Nat → Int64} {W : Nat → Nat} (hK : qLay K sz) (hR : qRef R) (cI : CI I p) (hsee : ∀ s, s < pS p → qSee (pM p) (I 58 s)) (hL : ∀ y, y < 2 ^ pS p → L 59 y = lN (W y)) (hq : Q (some (.long (lN (sm (fun x => W x * rwG (pS p) (mtF (I 58)) 0 x) (2 ^ pS p))))) (K, I, L, R, sz)) : ∀ (k i : Nat), i + k = 2 ^ pS p → X (d + 1) 0 0 8003 0 0 90 [some (.ref 57), some (.ref 22), some (.int x2), some (.int (nI (2 ^ pS p))), some (.long (lN (sm (fun x => W x * rwG (pS p) (mtF (I 58)) 0 x) i))), none, some (.int (nI i))] [] (K, I, L, R, sz) Q := by
  intro k
  have w5 := cI.w5
  have h32 := pw_le w5
  induction k with
  | zero =>
    intro i hi
    have hle : nI (2 ^ pS p) ≤ nI i := nI_le (by omega) (by omega)
    have : i = 2 ^ pS p := by omega
    subst this
    exact g8003_90 (p := p) hK hR cI (fun h => absurd hle h) (fun h => absurd hle h) (fun h => absurd hle h) (fun _ => hq) (fun h => absurd hle h) (fun h => absurd hle h)
  | succ k ih =>
    intro i hi
    have hnl : ¬ nI (2 ^ pS p) ≤ nI i := nI_ge (by omega) (by omega)
    have ih' := ih (i + 1) (by omega)
    have ec : (nI i).toNatClampNeg = i := nI_c (by omega)
    have eG : rwG (pS p) (mtF (I 58)) 0 i = if allB (fun s => bt i s || mtF (I 58) s 0) (pS p) = true then 1 else 0 := by
      unfold rwG
      rw [allB_cong (pS p) (q := fun s => bt i s || mtF (I 58) s 0) (fun s _ => by rw [dg_0])]
    rw [sm] at ih'
    refine g8003_90 (p := p) hK hR cI (fun _ => ⟨i, by omega, rfl⟩) (fun _ => hsee) (fun _ _ => vI (by omega) (by omega)) (fun h => absurd h hnl) (fun _ h => ?_) (fun _ h => ?_) <;> rw [ec] at h
    · rw [eG, if_pos h, Nat.mul_one] at ih'
      rw [ec, hL i (by omega), lN_add, nI_1]; exact ih'
    · rw [eG, if_neg h, Nat.mul_zero, Nat.add_zero] at ih'
      rw [nI_1, Int64.add_zero]; exact ih'
theorem l8003c {x2 x4 : Int32} {W : Nat → Nat} (hK : qLay K sz) (hR : qRef R) (cI : CI I p) (hsee : ∀ s, s < pS p → qSee (pM p) (I 58 s)) (hq : ∀ L : Nat → Nat → Int64, (∀ y, y < 2 ^ pS p → L 59 y = lN (wol (pS p) (rwT (pM p) (mayI I)) (rwL (pM p) (mayI I) (mtF (I 58))) W y)) → X (d + 4) 0 0 8003 0 0 42 [some (.ref 57), some (.ref 22), some (.int x2), some (.int (nI (2 ^ pS p))), some (.int (x4 + 1)), none, none] [] (K, I, L, R, sz) Q) : ∀ (c : Nat) (L : Nat → Nat → Int64), c ≤ 2 ^ pS p → (∀ y, y < c → L 59 y = lN (W y)) → (∀ y, c ≤ y → y < 2 ^ pS p → L 59 y = lN (wol (pS p) (rwT (pM p) (mayI I)) (rwL (pM p) (mayI I) (mtF (I 58))) W y)) → X (d + 4) 0 0 8003 0 0 53 [some (.ref 57), some (.ref 22), some (.int x2), some (.int (nI (2 ^ pS p))), some (.int x4), some (.int (nI c - 1)), none] [] (K, I, L, R, sz) Q := by
  intro c
  have w5 := cI.w5
  have h32 := pw_le w5
  induction c with
  | zero =>
    intro L hc h1 h2
    have hlt : (nI 0 - 1 : Int32) < 0 := by decide
    exact g8003_53 (p := p) (W := W) hK hR cI (fun h => absurd hlt h) (fun h => absurd hlt h) (fun h => absurd hlt h) (fun h => absurd hlt h) (fun _ => hq L (fun y hy => h2 y (Nat.zero_le _) hy)) (fun h => absurd hlt h)
  | succ c ih =>
    intro L hc h1 h2
    have e : (nI (c + 1) - 1 : Int32) = nI c := nI_pred c
    have ec : (nI c).toNatClampNeg = c := nI_c (by omega)
    rw [e]
    have hnl : ¬ nI c < 0 := nI_pos (by omega)
    refine g8003_53 (p := p) (W := W) hK hR cI (fun _ => ⟨c, by omega, rfl⟩) (fun _ => hsee) (fun _ y hy => h1 y (by rw [ec] at hy; omega)) (fun _ => vI (by omega) (by omega)) (fun h => absurd h hnl) (fun _ => ?_)
    rw [ec, show (nI c + (-1) : Int32) = nI c - 1 from by rw [Int32.sub_eq_add_neg]]
    refine ih _ (by omega) (fun y hy => ?_) (fun y hy1 hy2 => ?_)
    · rw [vu_s, pk_uLn (by omega)]; exact h1 y (by omega)
    · rw [vu_s]
      by_cases hyc : y = c
      · rw [hyc, pk_uLs]
      · rw [pk_uLn hyc]; exact h2 y (by omega) hy2
theorem l8003b {n : Nat} (hK : qLay K sz) (hR : qRef R) (cI : CI I p) (hsee : ∀ s, s < pS p → qSee (pM p) (I 58 s)) (hn : n ≤ 12) (hq : ∀ L : Nat → Nat → Int64, Q (some (.long (lN (rwC I p n)))) (K, I, L, R, sz)) : ∀ (k i : Nat) (L : Nat → Nat → Int64), i + k = n → (∀ y, y < 2 ^ pS p → L 59 y = lN (wI (pS p) (rwT (pM p) (mayI I)) (rwL (pM p) (mayI I) (mtF (I 58))) i y)) → X (d + 4) 0 0 8003 0 0 42 [some (.ref 57), some (.ref 22), some (.int (nI n)), some (.int (nI (2 ^ pS p))), some (.int (nI i)), none, none] [] (K, I, L, R, sz) Q := by
  intro k
  induction k with
  | zero =>
    intro i L hi hL
    have hle : nI n ≤ nI i := nI_le (by omega) (by omega)
    have : i = n := by omega
    subst this
    refine g8003_42 (fun _ => ?_) (fun h => absurd hle h)
    exact l8003d (p := p) (d := d + 3) hK hR cI hsee hL (hq L) (2 ^ pS p) 0 (by omega)
  | succ k ih =>
    intro i L hi hL
    have hnl : ¬ nI n ≤ nI i := nI_ge (by omega) (by omega)
    refine g8003_42 (fun h => absurd h hnl) (fun _ => ?_)
    refine l8003c (p := p) (W := wI (pS p) (rwT (pM p) (mayI I)) (rwL (pM p) (mayI I) (mtF (I 58))) i) hK hR cI hsee (fun L' h' => ?_) (2 ^ pS p) L (Nat.le_refl _) hL (fun y h1 h2 => by omega)
    rw [nI_1]
    exact ih (i + 1) L' (by omega) h'
theorem l8003a {x2 : Int32} (hK : qLay K sz) (hR : qRef R) (cI : CI I p) (hq : ∀ L : Nat → Nat → Int64, (∀ y, y < 2 ^ pS p → L 59 y = lN (if y = 0 then 1 else 0)) → X d 0 0 8003 0 0 42 [some (.ref 57), some (.ref 22), some (.int x2), some (.int (nI (2 ^ pS p))), some (.int 0), none, none] [] (K, I, L, R, sz) Q) : ∀ (k i : Nat) (L : Nat → Nat → Int64), i + k = 2 ^ pS p → (∀ y, y < i → L 59 y = lN (if y = 0 then 1 else 0)) → X d 0 0 8003 0 0 10 [some (.ref 57), some (.ref 22), some (.int x2), some (.int (nI (2 ^ pS p))), some (.int (nI i)), none, none] [] (K, I, L, R, sz) Q := by
  intro k
  have w5 := cI.w5
  have h32 := pw_le w5
  induction k with
  | zero =>
    intro i L hi hL
    have hle : nI (2 ^ pS p) ≤ nI i := nI_le (by omega) (by omega)
    exact g8003_10 hK hR (fun h => absurd hle h) (fun h => absurd hle h) (fun _ => hq L (fun y hy => hL y (by omega))) (fun h => absurd hle h) (fun h => absurd hle h)
  | succ k ih =>
    intro i L hi hL
    have hnl : ¬ nI (2 ^ pS p) ≤ nI i := nI_ge (by omega) (by omega)
    have ec : (nI i).toNatClampNeg = i := nI_c (by omega)
    have hv : vp_in (nI i) 32 := vI (by omega) (by omega)
    have hz : nI i = 0 ↔ i = 0 := nI_eq (b := 0) (by omega) (by omega)
    have hgo : ∀ v, v = lN (if i = 0 then 1 else 0) → X d 0 0 8003 0 0 10 [some (.ref 57), some (.ref 22), some (.int x2), some (.int (nI (2 ^ pS p))), some (.int (nI i + 1)), none, none] [] (K, I, va_up L 59 (vp_updL (L 59) (nI i).toNatClampNeg v), R, sz) Q := by
      intro v hv
      rw [nI_1, ec]
      refine ih (i + 1) _ (by omega) (fun y hy => ?_)
      rw [vu_s]
      by_cases hyi : y = i
      · rw [hyi, pk_uLs]; exact hv
      · rw [pk_uLn hyi]; exact hL y (by omega)
    refine g8003_10 hK hR (fun _ _ => hv) (fun _ _ => hv) (fun h => absurd h hnl) (fun _ h => hgo 0 ?_) (fun _ h => hgo 1 ?_)
    · rw [if_neg (fun q => h (hz.mpr q))]; rfl
    · rw [if_pos (hz.mp h)]; rfl
theorem s8003 {a : Int32} {L : Nat → Nat → Int64} {n : Nat} (hK : qLay K sz) (hR : qRef R) (cI : CI I p) (hsee : ∀ s, s < pS p → qSee (pM p) (I 58 s)) (ha : a = nI n) (hn : n ≤ 12) (hq : ∀ L : Nat → Nat → Int64, Q (some (.long (lN (rwC I p n)))) (K, I, L, R, sz)) : X (d + 4) 0 0 8003 0 0 0 (qent (qml 8003) [.ref 57, .ref 22, .int a]) [] (K, I, L, R, sz) Q := by
  subst ha
  have w5 := cI.w5
  refine e8003 hK ?_
  have e : (1 <<< ((I 22 1) &&& 31) : Int32) = nI (2 ^ pS p) := by rw [cI.lS]; exact shl_1 ⟨pS p, by omega⟩
  rw [e]
  exact l8003a (p := p) hK hR cI (fun L' h' => l8003b (p := p) hK hR cI hsee hn hq n 0 L' (by omega) h') (2 ^ pS p) 0 L (by omega) (fun y hy => by omega)
end L82
