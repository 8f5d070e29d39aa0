/-! the letter that may be refused -/
set_option maxRecDepth 100000 in
theorem sv_rm {d n q : Nat} (hq : q = 5) (h : 64 * (d + 60) ≤ n) : 8 + (q + 11) + 64 * (d + 59) ≤ n := by subst hq; omega
section L99zs
variable {nA : Nat} {aF : Nat → Int32} {d MC MS uc us : Nat} {ls : List (Option Value)} {K : qK} {I : Nat → Nat → Int32} {L : Nat → Nat → Int64} {R : Nat → Nat → Option Nat} {sz : Nat} {Q : Option Value → qMem → Prop} {p : qPa}
theorem z_sv {a b : Int32} (hK : qLay K sz) (hR : qRef R) (cI : CI I p) (hsz : sz + 1 < 1000000) (u1 : uc + 1 ≤ MC) (u2 : us + 6 ≤ MS)
    (hn : qIn (pS p) a → qIn 3 b → XZ nA aF (d + 60) MC MS 13000 (uc + 1) (us + 6) 369 ls [.int 0] (K, I, va_up L 106 (vp_updL (L 106) (0 : Int32).toNatClampNeg (fServant I a b).toInt64), R, sz) Q)
    (hx : ¬ (qIn (pS p) a ∧ qIn 3 b) → ∀ sz', sz ≤ sz' → sz' ≤ sz + 1 → XZ nA aF (d + 60) MC MS 13000 (uc + 1) (us + 6) 369 ls [.int 1] (qKx K sz, I, L, R, sz') Q) :
    XZ nA aF (d + 60) MC MS 13000 uc us 366 ls [.ref 106, .int b, .int a, .ref 0] (K, I, L, R, sz) Q := by
  intro p0 l e R0 s m args below meth c D cA b0 sa H locs lsr hZ hC hl hH hS
  have hts := hC.2.2.2.2.2.2.2.1
  have hRr := hC.2.2.2.2.2.2.2.2.1
  have hG : GoodIn qGW qWsW := fun w hw => by
    rcases List.mem_cons.mp hw with rfl | hw
    · exact ⟨sv_with, qGW_good sv_with⟩
    · exact ⟨hw, qGW_good hw⟩
  have hM := m13001 (dd := d + 59) (a := a) (b := b) (Q := fun r M => XZ nA aF (d + 60) MC MS 13000 (uc + 1) (us + 6) 369 ls (qpush r []) M Q) (by omega) hK hR cI hsz hn hx l D cA b0 sa
  have hnn : (parseMethodDescriptor (qn 13001).desc).map (fun d => d.parameters.length) = some 4 := by decide +kernel
  have cw : vx_CSW R0 s args (qcn 13) 38 (qn 13001) (qc 13001) (qml 13001) (qr 13001) [(0, 10, 13, 13)] qWsW (qRm (d + 59) 1 6) 1 6 4 :=
    ⟨⟨rfl, rfl, hRr.1, sv_rm (q := qml 13001) rfl hRr.2.1, pay_in hts hG, List.mem_cons_self⟩, hts _ sv_with, hts _ sv_law, ⟨by decide +kernel, by decide +kernel⟩, fun sig h => by
      rw [h] at hnn
      exact (Option.some.inj hnn).symm, hts _ sv_meth, hts _ sv_stat⟩
  refine q_back (vx_runSW (As := [Value.ref 0, .int a, .int b, .ref 106].map (qv (qg b0 sa))) (rest := []) (q_fix hC) hM cw (q_preX hC hH hS hZ.2) rfl rfl hl.1 rfl (Nat.le_of_ble_eq_true rfl) k13000_366 ⟨Nat.le_trans u1 hRr.2.2.1, Nat.le_trans u2 hRr.2.2.2⟩) hS (fun r M H1 locs1 hq g1 g2 => ?_)
  have := hq p0 l e R0 s m args below meth c D cA b0 sa H1 locs1 lsr hZ hC hl g1 g2
  cases r <;> exact this
theorem LV_kx {I' : Nat → Nat → Int32} {sz' : Nat} (h : LV K R sz I) (hz : sz ≤ sz') (hi : ∃ p, iNV I' p) : LV (qKx K sz) R sz' I' := by
  obtain ⟨hK, hR, hP, -⟩ := h
  have e : ∀ i, i < sz → qKx K sz i = K i := fun i hi => if_pos hi
  refine ⟨⟨Nat.le_trans hK.1 hz, fun i k q => by rw [e i (hK.at q).1]; exact hK.2 i k q⟩, hR, ⟨?_, ?_⟩, hi⟩
  · rcases hP.1 with g | ⟨q, g, g1, g2, g3, g4, g5, g6, g7⟩
    · exact Or.inl g
    · exact Or.inr ⟨q, g, g1, by omega, by rw [e q (by omega)]; exact g3, by rw [e _ (by omega)]; exact g4, by rw [e _ (by omega)]; exact g5, g6, g7⟩
  · rcases hP.2 with g | ⟨q, g, g1, g2, g3, g4, g5, g6, g7⟩
    · exact Or.inl g
    · exact Or.inr ⟨q, g, g1, by omega, by rw [e q (by omega)]; exact g3, by rw [e _ (by omega)]; exact g4, by rw [e _ (by omega)]; exact g5, by rw [e _ (by omega)]; exact g6, g7⟩
theorem iNV_73 {v : Int32} (h : iNV I p) : iNV (va_up I 73 (upd (I 73) 0 v)) p := iNV_q h ((qAf.refl h.1).z (by unfold scQ kpQ; omega))
theorem law4 : Law4 nA aF d MC MS Q := by
  intro wb uc us K I L R sz i a5 a6 v1 v2 hV kt
  obtain ⟨⟨hK, hR, hP, p, h⟩, b1, b2, b3⟩ := hV
  have u1 : uc + 1 ≤ MC := by omega
  have u2 : us + 6 ≤ MS := by omega
  refine z_ald1 k13000_352 <| z_ald0 k13000_353 <| z_ild4 k13000_354 <| z_iconst (v := 1) k13000_356 rfl <| z_iadd k13000_357 <| z_arg k13000_358 v1 <| z_ald0 k13000_359 <| z_ild4 k13000_360 <| z_iconst (v := 2) k13000_362 rfl <| z_iadd k13000_363 <| z_arg k13000_364 v2 <| z_ald3 k13000_365 <| z_sv (p := p) hK hR h.1 (by omega) u1 u2 (fun ha hb => ?_) (fun hab sz' z1 z2 => ?_)
  · refine z_ist5 k13000_369 (Nat.le_of_ble_eq_true rfl) rfl <| z_ald2 k13000_371 <| z_ald0 k13000_372 <| z_ild4 k13000_373 <| z_iconst (v := 1) k13000_375 rfl <| z_iadd k13000_376 <| z_arg k13000_377 v1 <| z_ald0 k13000_378 <| z_ild4 k13000_379 <| z_iconst (v := 2) k13000_381 rfl <| z_iadd k13000_382 <| z_arg k13000_383 v2 <| z_cV2 (MCz := 0) (MSz := 0) k13000_384 v13_43_11 (hK.at rfl) (Nat.le_of_ble_eq_true rfl) (Nat.le_of_ble_eq_true rfl) u1 u2 <| s12049 hK hR h.1 h.2.1 (fun _ _ => ?_) (fun no => absurd ⟨ha, hb⟩ no)
    refine z_ist6 k13000_387 (Nat.le_of_ble_eq_true rfl) rfl <| z_ald2 k13000_389 <| z_cV0 (MCz := 0) (MSz := 0) k13000_390 v13_44_11 (hK.at rfl) (Nat.le_of_ble_eq_true rfl) (Nat.le_of_ble_eq_true rfl) u1 u2 <| t12003 hK <| z_ild5 k13000_393 <| z_icmpeq (tgt := 400) k13000_395 (by decide) (fun _ => ?_) (fun q => (q (by simp [va_up, upd])).elim)
    refine z_ild5 k13000_400 <| z_ifne (tgt := 417) k13000_402 (by decide) (fun q => (q rfl).elim) (fun _ => ?_)
    refine z_ald3 k13000_405 <| z_iconst (v := 0) k13000_406 rfl <| z_lald k13000_407 (hK.at rfl) (qvp (by decide)) <| z_ild6 k13000_408 <| z_i2l k13000_410 <| z_lcmp k13000_411 <| z_ifeq (tgt := 417) k13000_412 (by decide) (fun _ => z_goto (tgt := 1637) k13000_417 (by decide) (kt _ _ _ _ K _ _ R sz ⟨⟨hK, hR, hP, p, iNV_73 h⟩, by omega, by omega, by omega⟩)) (fun q => (q (lg_cmp0.mpr (by simp [va_up, vp_updL]))).elim)
  · have hL := LV_kx (I' := va_up I 73 (upd (I 73) 0 1)) ⟨hK, hR, hP, p, h⟩ z1 ⟨p, iNV_73 h⟩
    have hK' := hL.1
    refine z_ist5 k13000_369 (Nat.le_of_ble_eq_true rfl) rfl <| z_ald2 k13000_371 <| z_ald0 k13000_372 <| z_ild4 k13000_373 <| z_iconst (v := 1) k13000_375 rfl <| z_iadd k13000_376 <| z_arg k13000_377 v1 <| z_ald0 k13000_378 <| z_ild4 k13000_379 <| z_iconst (v := 2) k13000_381 rfl <| z_iadd k13000_382 <| z_arg k13000_383 v2 <| z_cV2 (MCz := 0) (MSz := 0) k13000_384 v13_43_11 (hK'.at rfl) (Nat.le_of_ble_eq_true rfl) (Nat.le_of_ble_eq_true rfl) u1 u2 <| s12049 hK' hR h.1 h.2.1 (fun ha hb => absurd ⟨ha, hb⟩ hab) (fun _ => ?_)
    refine z_ist6 k13000_387 (Nat.le_of_ble_eq_true rfl) rfl <| z_ald2 k13000_389 <| z_cV0 (MCz := 0) (MSz := 0) k13000_390 v13_44_11 (hK'.at rfl) (Nat.le_of_ble_eq_true rfl) (Nat.le_of_ble_eq_true rfl) u1 u2 <| t12003 hK' <| z_ild5 k13000_393 <| z_icmpeq (tgt := 400) k13000_395 (by decide) (fun _ => ?_) (fun q => (q (by simp [va_up, upd])).elim)
    exact z_ild5 k13000_400 <| z_ifne (tgt := 417) k13000_402 (by decide) (fun _ => z_goto (tgt := 1637) k13000_417 (by decide) (kt _ _ _ _ (qKx K sz) _ _ R sz' ⟨hL, by omega, by omega, by omega⟩)) (fun q => absurd q (by decide))
end L99zs
