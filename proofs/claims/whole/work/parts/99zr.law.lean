/-! the start of the law -/
theorem qLay_of {K : qK} {sz : Nat} (h1 : 107 ≤ sz) (h : ∀ i : Fin 107, qlay i.val = some (K i.val)) : qLay K sz := ⟨h1, fun i k e => by
  have hi : i < 107 := (List.getElem?_eq_some_iff.mp e).1
  exact Option.some.inj ((h ⟨i, hi⟩).symm.trans e)⟩
theorem qlref_64 : ∀ i : Fin 107, (qlrefL.getD i.val []).length ≤ 64 := by decide +kernel
theorem qRef_of {R : Nat → Nat → Option Nat} (h : ∀ (i : Fin 107) (k : Fin 64), qlref i.val k.val = none ∨ R i.val k.val = qlref i.val k.val) : qRef R := fun i k r e => by
  have hi : i < 107 := Nat.not_le.mp (fun w => by rw [qlr_hi w] at e; cases e)
  have hk : k < 64 := Nat.not_le.mp (fun w => by
    have := qlref_64 ⟨i, hi⟩
    unfold qlref at e
    rw [List.getD_eq_getElem?_getD (l := qlrefL.getD i []), List.getElem?_eq_none (Nat.le_trans this w)] at e
    cases e)
  rcases h ⟨i, hi⟩ ⟨k, hk⟩ with q | q
  · exact absurd (e.symm.trans q) (by simp)
  · exact q.trans e
def e0 (j k : Nat) : Int32 := if j = 0 ∧ k = 6 then -1 else if (j = 58 ∨ j = 67 ∨ j = 100) ∧ k < 5 then -1 else if j = 73 ∧ (k = 27 ∨ k = 34) then -1 else if j = 99 then [1, 3, 9, 27, 81].getD k 0 else 0
/-- nothing told yet -/
theorem iNV_0 {I : Nat → Nat → Int32} (h : ∀ (j : Fin 107) (k : Fin 64), I j.val k.val = e0 j.val k.val) (hz : ∀ z, (I 86 z = 0 ∧ I 87 z = 0 ∧ I 88 z = 0) ∧ I 52 z = 0 ∧ I 53 z = 0 ∧ I 54 z = 0) : iNV I (0, 0, 0, 0, 0, none, none) := by
  have g : ∀ j k, j < 107 → k < 64 → I j k = e0 j k := fun j k a b => h ⟨j, a⟩ ⟨k, b⟩
  have zz : ∀ j k, j < 107 → k < 64 → e0 j k = 0 → I j k = 0 := fun j k a b c => (g j k a b).trans c
  refine ⟨⟨⟨⟨zz 22 0 (by decide) (by decide) (by decide), zz 22 1 (by decide) (by decide) (by decide), zz 22 2 (by decide) (by decide) (by decide), zz 22 3 (by decide) (by decide) (by decide)⟩, ⟨by decide, by decide, by decide, by decide⟩, fun s hs => absurd hs (Nat.not_lt_zero s), fun s hs => absurd hs (Nat.not_lt_zero s), fun s hs => absurd hs (Nat.not_lt_zero s)⟩,
    ⟨zz 51 5 (by decide) (by decide) (by decide), by decide, fun i hi => absurd hi (Nat.not_lt_zero i), fun i j _ hj => absurd hj (Nat.not_lt_zero j)⟩, ⟨0, Nat.le_refl _, zz 51 6 (by decide) (by decide) (by decide), fun i hi => absurd hi (Nat.not_lt_zero i)⟩, g 0 6 (by decide) (by decide), Or.inl ⟨rfl, rfl⟩, ⟨0, by decide, zz 0 7 (by decide) (by decide) (by decide)⟩⟩,
    ⟨⟨?_, ?_, ?_, ?_⟩, ⟨fun s k _ hs => absurd hs (Nat.not_lt_zero s), fun s _ hs => absurd hs (Nat.not_lt_zero s), fun s k _ hs => absurd hs (Nat.not_lt_zero s)⟩, ⟨?_, funext fun z => (hz z).1.1.trans (hz z).2.1.symm, funext fun z => (hz z).1.2.1.trans (hz z).2.2.1.symm, funext fun z => (hz z).1.2.2.trans (hz z).2.2.2.symm⟩, Or.inl ⟨g 73 27 (by decide) (by decide), rfl⟩, ⟨?_, ?_, ?_, ?_⟩, g 73 34 (by decide) (by decide)⟩,
    ⟨0, Nat.zero_le _, zz 1 1 (by decide) (by decide) (by decide), zz 73 2 (by decide) (by decide) (by decide), fun k hk => absurd hk (Nat.not_lt_zero k)⟩, ⟨0, Nat.zero_le _, zz 0 5 (by decide) (by decide) (by decide), fun k hk => absurd hk (Nat.not_lt_zero k)⟩, fun s hs => ?_, ⟨?_, Or.inl (zz 0 13 (by decide) (by decide) (by decide)), fun q => ?_⟩, Or.inl ⟨rfl, rfl, rfl, rfl⟩, Or.inl (zz 0 8 (by decide) (by decide) (by decide)), ⟨g 99 0 (by decide) (by decide), g 99 1 (by decide) (by decide), g 99 2 (by decide) (by decide), g 99 3 (by decide) (by decide), g 99 4 (by decide) (by decide)⟩⟩
  · rw [g 73 23 (by decide) (by decide), g 22 0 (by decide) (by decide)]; rfl
  · rw [g 73 24 (by decide) (by decide), g 22 1 (by decide) (by decide)]; rfl
  · rw [g 73 25 (by decide) (by decide), g 22 2 (by decide) (by decide)]; rfl
  · rw [g 73 26 (by decide) (by decide), g 22 3 (by decide) (by decide)]; rfl
  · rw [g 73 33 (by decide) (by decide), g 51 5 (by decide) (by decide)]; rfl
  · rw [g 73 28 (by decide) (by decide), g 0 7 (by decide) (by decide)]; rfl
  · rw [g 73 27 (by decide) (by decide), g 0 6 (by decide) (by decide)]; rfl
  · rw [g 73 29 (by decide) (by decide), g 0 8 (by decide) (by decide)]; rfl
  · rw [g 73 13 (by decide) (by decide), g 0 5 (by decide) (by decide)]; rfl
  · have e1 : I 58 s = -1 := (g 58 s (by decide) (by omega)).trans (by unfold e0; rw [if_neg (by omega), if_pos ⟨Or.inl rfl, hs⟩])
    have e2 : I 100 s = -1 := (g 100 s (by decide) (by omega)).trans (by unfold e0; rw [if_neg (by omega), if_pos ⟨Or.inr (Or.inr rfl), hs⟩])
    exact ⟨e2.trans e1.symm, Or.inl e1⟩
  · rw [g 73 60 (by decide) (by decide), g 0 13 (by decide) (by decide)]; rfl
  · rw [g 0 13 (by decide) (by decide)] at q
    exact absurd q (by decide)
theorem bC_le {R : Nat → Nat → Option Nat} : bC R ≤ 7 ∧ bS R ≤ 97527 ∧ bZ R ≤ 8 := by
  unfold bC bS bZ
  by_cases h : R 0 16 = none <;> by_cases g : R 0 17 = none <;> simp [h, g]
section L99zr
variable {nA : Nat} {aF : Nat → Int32} {d MC MS : Nat} {Q : Option Value → qMem → Prop}
theorem law_start (hL4 : Law4 nA aF d MC MS Q) (hA : nA ≤ 3072) (hMC : 626 ≤ MC) (hMS : 287959 ≤ MS) (hq : ∀ K I L R sz, Q (some (.int 1)) (K, I, L, R, sz)) : XZ nA aF (d + 60) MC MS 13000 0 0 0 [some (.ref 1000006), none, none, none, none, none, none] [] (fun _ => .inl 0, fun _ _ => 0, fun _ _ => 0, fun _ _ => none, 0) Q := by
  refine z_new k13000_0 w13_8 (by omega) (by omega) (by decide) <| z_dup k13000_3 rfl <| z_cI0 (MCz := 72) (MSz := 2254) k13000_4 i13_15 rfl (Nat.le_of_ble_eq_true rfl) (Nat.le_of_ble_eq_true rfl) (by omega) (by omega) <| mk11000 (d := d + 56) qAt_s (by decide) <| z_ast1 k13000_7 (Nat.le_of_ble_eq_true rfl) rfl <| z_new k13000_8 w13_16 (by omega) (by omega) (by decide) <| z_dup k13000_11 rfl <| z_cI0 (MCz := 32) (MSz := 185026) k13000_12 i13_18 rfl (Nat.le_of_ble_eq_true rfl) (Nat.le_of_ble_eq_true rfl) (by omega) (by omega) <| mk12002 (d := d + 58) qAt_s (by decide) <| z_ast2 k13000_15 (Nat.le_of_ble_eq_true rfl) rfl <| z_iconst (v := 1) k13000_16 rfl <| z_newL (n := 1) k13000_17 qa_long (by decide) (by decide) (by decide) (by omega) (by omega) (by decide) <| z_ast3 k13000_19 (Nat.le_of_ble_eq_true rfl) rfl <| z_iconst (v := 0) k13000_20 rfl <| z_ist4 k13000_21 (Nat.le_of_ble_eq_true rfl) rfl <| law_loop hL4 (by omega) hq 512 0 _ _ _ _ _ _ _ _ _ (by decide) (by omega) ⟨⟨?_, ?_, ?_, (0, 0, 0, 0, 0, none, none), ?_⟩, ?_, ?_, ?_⟩
  · exact qLay_of (by decide) (by decide +kernel)
  · exact qRef_of (by decide +kernel)
  · exact ⟨Or.inl (by decide +kernel), Or.inl (by decide +kernel)⟩
  · exact iNV_0 (by decide +kernel) (fun z => ⟨⟨rfl, rfl, rfl⟩, rfl, rfl, rfl⟩)
  · exact Nat.le_trans (Nat.add_le_add_right (Nat.add_le_add_left bC_le.1 _) _) (by omega)
  · exact Nat.le_trans (Nat.add_le_add_right (Nat.add_le_add_left bC_le.2.1 _) _) (by omega)
  · exact Nat.le_trans (Nat.add_le_add_right (Nat.add_le_add_left bC_le.2.2 _) _) (by decide)
end L99zr
