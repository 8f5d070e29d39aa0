/-! texts: their length, where a letter stands -/
def sByt (j : Nat) : List Int32 := [[97, 111, 119], [97], [114, 104, 110, 112]].getD j []
def sLen (j : Nat) : Nat := [3, 1, 4].getD j 0
section L36zs
variable {d MC MS y uc us pc : Nat} {ls : List (Option Value)} {st : List Value} {K : qK} {I : Nat → Nat → Int32} {L : Nat → Nat → Int64} {R : Nat → Nat → Option Nat} {sz : Nat} {Q : Option Value → qMem → Prop} {M : qMem}
theorem qg_s {b0 : Nat} {sa : Nat → Nat} {j : Nat} : qg b0 sa (1000000 + j) = sa j := by
  unfold qg
  rw [if_neg (by omega), Nat.add_sub_cancel_left]
theorem qg_s3 {b0 : Nat} {sa : Nat → Nat} {j : Nat} : qg b0 sa (1000003 + j) = sa (3 + j) := by
  unfold qg
  rw [if_neg (by omega)]
  exact congrArg sa (by omega)
theorem x_ldcS {idx j : Nat} {tx : String} (hdg : decode (qc y) pc = .ok (.ldc idx, 2)) (hz : ∀ (b0 : Nat) (sa : Nat → Nat) (U : State), qT b0 sa U → vk_R (qcn (y / 1000)) idx tx (sa j) U) (k2 : X d MC MS y uc us (pc + 2) ls (.ref (1000000 + j) :: st) M Q) : X d MC MS y uc us pc ls st M Q := by
  intro p l e R0 s m args below meth c D cA b0 sa H locs lsr hC hl hH hS
  have k3 := k2 p l e R0 s m args below meth c D cA b0 sa H locs lsr hC hl hH hS
  simp only [List.map_cons, qv, qg_s] at k3
  exact va_ldcS hC.1 hC.2.1 hC.2.2.2.2.2.1 (hz b0 sa s hC.2.2.2.2.2.2.2.2.2.2.2.2.2.2) hdg k3
theorem x_sV {idx j : Nat} (hj : j < 3) (hdg : decode (qc y) pc = .ok (.getfield idx, 3)) (hw : Cond.fieldLink (qcn (y / 1000)) idx "java/lang/String" "value" "[B" ∈ qGW) (k2 : X d MC MS y uc us (pc + 3) ls (.ref (1000003 + j) :: st) M Q) : X d MC MS y uc us pc ls (.ref (1000000 + j) :: st) M Q := by
  intro p l e R0 s m args below meth c D cA b0 sa H locs lsr hC hl hH hS
  have k3 := k2 p l e R0 s m args below meth c D cA b0 sa H locs lsr hC hl hH hS
  simp only [List.map_cons, qv, qg_s, qg_s3] at k3 ⊢
  have hT := hC.2.2.2.2.2.2.2.2.2.2.2.2.2.2
  exact vk_getf hC.1 hC.2.1 (hT.1.1 j hj).2.2.1 hS hC.2.2.2.2.2.1 (hC.2.2.2.2.2.2.2.1 _ hw) (fun _ h => h) hdg k3
theorem x_sC {idx j : Nat} (hj : j < 3) (hdg : decode (qc y) pc = .ok (.getfield idx, 3)) (hw : Cond.fieldLink (qcn (y / 1000)) idx "java/lang/String" "coder" "B" ∈ qGW) (k2 : X d MC MS y uc us (pc + 3) ls (.int 0 :: st) M Q) : X d MC MS y uc us pc ls (.ref (1000000 + j) :: st) M Q := by
  intro p l e R0 s m args below meth c D cA b0 sa H locs lsr hC hl hH hS
  have k3 := k2 p l e R0 s m args below meth c D cA b0 sa H locs lsr hC hl hH hS
  simp only [List.map_cons, qv, qg_s] at k3 ⊢
  have hT := hC.2.2.2.2.2.2.2.2.2.2.2.2.2.2
  exact vk_getf hC.1 hC.2.1 (hT.1.1 j hj).2.1 hS hC.2.2.2.2.2.1 (hC.2.2.2.2.2.2.2.1 _ hw) (fun _ h => h) hdg k3
theorem x_sG {idx : Nat} (hdg : decode (qc y) pc = .ok (.getstatic idx, 3)) (hw : Cond.fieldLink (qcn (y / 1000)) idx "java/lang/String" "COMPACT_STRINGS" "Z" ∈ qGW) (k2 : X d MC MS y uc us (pc + 3) ls (.int 1 :: st) M Q) : X d MC MS y uc us pc ls st M Q := by
  intro p l e R0 s m args below meth c D cA b0 sa H locs lsr hC hl hH hS
  have k3 := k2 p l e R0 s m args below meth c D cA b0 sa H locs lsr hC hl hH hS
  simp only [List.map_cons, qv] at k3
  have hT := hC.2.2.2.2.2.2.2.2.2.2.2.2.2.2
  exact va_gets hC.1 hC.2.1 hT.2.2.2.2 hS hC.2.2.2.2.2.1 (hC.2.2.2.2.2.2.2.1 _ hw) (fun _ h => h) hdg k3
theorem x_sL {j : Nat} (hj : j < 3) (hdg : decode (qc y) pc = .ok (.arraylength, 1)) (k2 : X d MC MS y uc us (pc + 1) ls (.int (nI (sLen j)) :: st) M Q) : X d MC MS y uc us pc ls (.ref (1000003 + j) :: st) M Q := by
  intro p l e R0 s m args below meth c D cA b0 sa H locs lsr hC hl hH hS
  have k3 := k2 p l e R0 s m args below meth c D cA b0 sa H locs lsr hC hl hH hS
  simp only [List.map_cons, qv, qg_s3] at k3 ⊢
  have hT := hC.2.2.2.2.2.2.2.2.2.2.2.2.2.2
  exact va_tlen hC.1 hC.2.1 (hT.1.1 j hj).2.2.2 hS rfl hdg k3
theorem x_sB {j i : Nat} (hj : j < 3) (hi : i < sLen j) (hdg : decode (qc y) pc = .ok (.baload, 1)) (k2 : X d MC MS y uc us (pc + 1) ls (.int ((sByt j).getD i 0) :: st) M Q) : X d MC MS y uc us pc ls (.int (nI i) :: .ref (1000003 + j) :: st) M Q := by
  intro p l e R0 s m args below meth c D cA b0 sa H locs lsr hC hl hH hS
  have k3 := k2 p l e R0 s m args below meth c D cA b0 sa H locs lsr hC hl hH hS
  simp only [List.map_cons, qv, qg_s3] at k3 ⊢
  have hT := hC.2.2.2.2.2.2.2.2.2.2.2.2.2.2
  have h4 : sLen j ≤ 4 := by
    have : j = 0 ∨ j = 1 ∨ j = 2 := by omega
    rcases this with rfl | rfl | rfl <;> decide
  exact va_tb hC.1 hC.2.1 (hT.1.1 j hj).2.2.2 hS (vI hi (by have : [3, 1, 4].getD j 0 = sLen j := rfl; omega)) (by rw [nI_c (by omega)]; rfl) hdg k3
theorem x_i2b {a : Int32} (hdg : decode (qc y) pc = .ok (.i2b, 1)) (k2 : X d MC MS y uc us (pc + 1) ls (.int a.toInt8.toInt32 :: st) M Q) : X d MC MS y uc us pc ls (.int a :: st) M Q := fun p l e R0 s m args below meth c D cA b0 sa H locs lsr hC hl hH hS => lv_i2b hC.1 hC.2.1 hdg rfl (k2 p l e R0 s m args below meth c D cA b0 sa H locs lsr hC hl hH hS)
theorem x_bret {a : Int32} (hdg : decode (qc y) pc = .ok (.ireturn, 1)) (hr : qr y = some .byte) (ha : a = 0 ∨ a = 1) (h1 : uc ≤ MC) (h2 : us ≤ MS) (hq : Q (some (.int a)) (K, I, L, R, sz)) : X d MC MS y uc us pc ls [.int a] (K, I, L, R, sz) Q := by
  intro p l e R0 s m args below meth c0 D cA b0 sa H locs lsr hC hl hH hS
  exact W.widen h1 h2 (W.zret hC.1 hC.2.1 (hC.2.2.1.trans hr) (by rcases ha with rfl | rfl <;> rfl) (q_end (r := some (.int a)) hH hS hq) hS.2.2 hdg hC.2.2.2.1)
/-- a call on a text -/
def qCtx (o idx z n : Nat) : Prop := qCb z n ∧ Cond.selects "java/lang/String" (qn z) (qn z) ∈ qGW ∧ Cond.methodLink (qcn o) idx (qn z) ∈ qGW ∧ Cond.instanceMethod (qn z) ∈ qGW
theorem x_callT {idx z n j MCz MSz : Nat} {As rest : List Value} (hj : j < 3) (hdg : decode (qc y) pc = .ok (.invokevirtual idx, 3)) (hw : qCtx (y / 1000) idx z n) (hst : st = As.reverse ++ .ref (1000000 + j) :: rest) (hn : As.length = n) (hcs : (rest.map fun v => v.category).sum ≤ 8) (hlen : (lg_sl (.ref (1000000 + j) :: As)).length ≤ qml z) (h1 : uc + MCz ≤ MC) (h2 : us + MSz ≤ MS)
    (k2 : X d MCz MSz z 0 0 0 (qent (qml z) (.ref (1000000 + j) :: As)) [] (K, I, L, R, sz) (fun r M => X (d + 1) MC MS y (uc + MCz) (us + MSz) (pc + 3) ls (qpush r rest) M Q)) : X (d + 1) MC MS y uc us pc ls st (K, I, L, R, sz) Q := by
  intro p l e R0 s m args below meth c0 D cA b0 sa H locs lsr hC hl hH hS
  obtain ⟨hb, hsel, hlk, hin⟩ := hw
  have hts := hC.2.2.2.2.2.2.2.1
  have hR := hC.2.2.2.2.2.2.2.2.1
  have hT := hC.2.2.2.2.2.2.2.2.2.2.2.2.2.2
  have hM := q_met hb.1 hb.2.1 hlen k2 l D cA b0 sa
  have hpre := q_pre (av := .ref (1000000 + j) :: As) hC hH hS
  have hrecv := vk_recv hT.1 hj hS
  rw [← qg_s (b0 := b0) (sa := sa) (j := j)] at hrecv
  refine q_back (va_runV (As := As.map (qv (qg b0 sa))) (rest := rest.map (qv (qg b0 sa))) (q_fix hC) hM ⟨q_cb hb hts hlk ⟨hR.1, hR.2.1⟩, hts _ hin, hts _ hsel⟩ ⟨hpre.1, hrecv, hpre.2⟩ rfl (by rw [List.length_map]; exact hn) hl.1 (by rw [hst]; simp [qv]) (by show 2 * 0 + _ ≤ 8; rw [Nat.mul_zero, Nat.zero_add]; exact q_stackW hcs) hdg ⟨Nat.le_trans h1 hR.2.2.1, Nat.le_trans h2 hR.2.2.2⟩) hS (fun r M H1 locs1 hq g1 g2 => ?_)
  have := hq p l e R0 s m args below meth c0 D cA b0 sa H1 locs1 lsr hC hl g1 g2
  cases r <;> exact this
end L36zs
theorem cb15000 : qCb 15000 0 := ⟨by decide +kernel, rfl, by decide +kernel, (qGW_at 471 (by decide +kernel) (by decide +kernel)), (qGW_at 118 (by decide +kernel) (by decide +kernel)), ⟨by decide +kernel, by decide +kernel⟩, by decide +kernel⟩
theorem k15000_0 : decode (qc 15000) 0 = .ok (.aload_n 0, 1) := by decide +kernel
theorem k15000_1 : decode (qc 15000) 1 = .ok (.getfield 9, 3) := by decide +kernel
theorem k15000_4 : decode (qc 15000) 4 = .ok (.arraylength, 1) := by decide +kernel
theorem k15000_5 : decode (qc 15000) 5 = .ok (.aload_n 0, 1) := by decide +kernel
theorem k15000_6 : decode (qc 15000) 6 = .ok (.invokevirtual 335, 3) := by decide +kernel
theorem k15000_9 : decode (qc 15000) 9 = .ok (.ishr, 1) := by decide +kernel
theorem k15000_10 : decode (qc 15000) 10 = .ok (.ireturn, 1) := by decide +kernel
theorem cb15001 : qCb 15001 0 := ⟨by decide +kernel, rfl, by decide +kernel, (qGW_at 475 (by decide +kernel) (by decide +kernel)), (qGW_at 118 (by decide +kernel) (by decide +kernel)), ⟨by decide +kernel, by decide +kernel⟩, by decide +kernel⟩
theorem k15001_0 : decode (qc 15001) 0 = .ok (.getstatic 38, 3) := by decide +kernel
theorem k15001_3 : decode (qc 15001) 3 = .ok (.ifCond .eq 10, 3) := by decide +kernel
theorem k15001_6 : decode (qc 15001) 6 = .ok (.aload_n 0, 1) := by decide +kernel
theorem k15001_7 : decode (qc 15001) 7 = .ok (.getfield 15, 3) := by decide +kernel
theorem k15001_10 : decode (qc 15001) 10 = .ok (.goto 4, 3) := by decide +kernel
theorem k15001_13 : decode (qc 15001) 13 = .ok (.iconst 1, 1) := by decide +kernel
theorem k15001_14 : decode (qc 15001) 14 = .ok (.ireturn, 1) := by decide +kernel
theorem cb15002 : qCb 15002 0 := ⟨by decide +kernel, rfl, by decide +kernel, (qGW_at 489 (by decide +kernel) (by decide +kernel)), (qGW_at 118 (by decide +kernel) (by decide +kernel)), ⟨by decide +kernel, by decide +kernel⟩, by decide +kernel⟩
theorem k15002_0 : decode (qc 15002) 0 = .ok (.getstatic 38, 3) := by decide +kernel
theorem k15002_3 : decode (qc 15002) 3 = .ok (.ifCond .eq 14, 3) := by decide +kernel
theorem k15002_6 : decode (qc 15002) 6 = .ok (.aload_n 0, 1) := by decide +kernel
theorem k15002_7 : decode (qc 15002) 7 = .ok (.getfield 15, 3) := by decide +kernel
theorem k15002_10 : decode (qc 15002) 10 = .ok (.ifCond .ne 7, 3) := by decide +kernel
theorem k15002_13 : decode (qc 15002) 13 = .ok (.iconst 1, 1) := by decide +kernel
theorem k15002_14 : decode (qc 15002) 14 = .ok (.goto 4, 3) := by decide +kernel
theorem k15002_17 : decode (qc 15002) 17 = .ok (.iconst 0, 1) := by decide +kernel
theorem k15002_18 : decode (qc 15002) 18 = .ok (.ireturn, 1) := by decide +kernel
theorem cb15003 : qCb 15003 1 := ⟨by decide +kernel, rfl, by decide +kernel, (qGW_at 481 (by decide +kernel) (by decide +kernel)), (qGW_at 118 (by decide +kernel) (by decide +kernel)), ⟨by decide +kernel, by decide +kernel⟩, by decide +kernel⟩
theorem k15003_0 : decode (qc 15003) 0 = .ok (.aload_n 0, 1) := by decide +kernel
theorem k15003_1 : decode (qc 15003) 1 = .ok (.iload_n 1, 1) := by decide +kernel
theorem k15003_2 : decode (qc 15003) 2 = .ok (.iconst 0, 1) := by decide +kernel
theorem k15003_3 : decode (qc 15003) 3 = .ok (.invokevirtual 633, 3) := by decide +kernel
theorem k15003_6 : decode (qc 15003) 6 = .ok (.ireturn, 1) := by decide +kernel
theorem cb15004 : qCb 15004 2 := ⟨by decide +kernel, rfl, by decide +kernel, (qGW_at 485 (by decide +kernel) (by decide +kernel)), (qGW_at 118 (by decide +kernel) (by decide +kernel)), ⟨by decide +kernel, by decide +kernel⟩, by decide +kernel⟩
theorem k15004_0 : decode (qc 15004) 0 = .ok (.aload_n 0, 1) := by decide +kernel
theorem k15004_1 : decode (qc 15004) 1 = .ok (.invokevirtual 492, 3) := by decide +kernel
theorem k15004_4 : decode (qc 15004) 4 = .ok (.ifCond .eq 19, 3) := by decide +kernel
theorem k15004_7 : decode (qc 15004) 7 = .ok (.aload_n 0, 1) := by decide +kernel
theorem k15004_8 : decode (qc 15004) 8 = .ok (.getfield 9, 3) := by decide +kernel
theorem k15004_11 : decode (qc 15004) 11 = .ok (.iload_n 1, 1) := by decide +kernel
theorem k15004_12 : decode (qc 15004) 12 = .ok (.iload_n 2, 1) := by decide +kernel
theorem k15004_13 : decode (qc 15004) 13 = .ok (.aload_n 0, 1) := by decide +kernel
theorem k15004_14 : decode (qc 15004) 14 = .ok (.invokevirtual 505, 3) := by decide +kernel
theorem k15004_17 : decode (qc 15004) 17 = .ok (.invokestatic 637, 3) := by decide +kernel
theorem k15004_20 : decode (qc 15004) 20 = .ok (.goto 16, 3) := by decide +kernel
theorem k15004_23 : decode (qc 15004) 23 = .ok (.aload_n 0, 1) := by decide +kernel
theorem k15004_24 : decode (qc 15004) 24 = .ok (.getfield 9, 3) := by decide +kernel
theorem k15004_27 : decode (qc 15004) 27 = .ok (.iload_n 1, 1) := by decide +kernel
theorem k15004_28 : decode (qc 15004) 28 = .ok (.iload_n 2, 1) := by decide +kernel
theorem k15004_29 : decode (qc 15004) 29 = .ok (.aload_n 0, 1) := by decide +kernel
theorem k15004_30 : decode (qc 15004) 30 = .ok (.invokevirtual 505, 3) := by decide +kernel
theorem k15004_33 : decode (qc 15004) 33 = .ok (.invokestatic 640, 3) := by decide +kernel
theorem k15004_36 : decode (qc 15004) 36 = .ok (.ireturn, 1) := by decide +kernel
theorem cb16000 : qCb 16000 1 := ⟨by decide +kernel, rfl, by decide +kernel, (qGW_at 496 (by decide +kernel) (by decide +kernel)), (qGW_at 119 (by decide +kernel) (by decide +kernel)), ⟨by decide +kernel, by decide +kernel⟩, by decide +kernel⟩
theorem k16000_0 : decode (qc 16000) 0 = .ok (.iload_n 0, 1) := by decide +kernel
theorem k16000_1 : decode (qc 16000) 1 = .ok (.ifCond .lt 14, 3) := by decide +kernel
theorem k16000_4 : decode (qc 16000) 4 = .ok (.iload_n 0, 1) := by decide +kernel
theorem k16000_5 : decode (qc 16000) 5 = .ok (.sipush 255, 3) := by decide +kernel
theorem k16000_8 : decode (qc 16000) 8 = .ok (.if_icmp .gt 7, 3) := by decide +kernel
theorem k16000_11 : decode (qc 16000) 11 = .ok (.iconst 1, 1) := by decide +kernel
theorem k16000_12 : decode (qc 16000) 12 = .ok (.goto 4, 3) := by decide +kernel
theorem k16000_15 : decode (qc 16000) 15 = .ok (.iconst 0, 1) := by decide +kernel
theorem k16000_16 : decode (qc 16000) 16 = .ok (.ireturn, 1) := by decide +kernel
theorem cb16001 : qCb 16001 4 := ⟨by decide +kernel, rfl, by decide +kernel, (qGW_at 493 (by decide +kernel) (by decide +kernel)), (qGW_at 119 (by decide +kernel) (by decide +kernel)), ⟨by decide +kernel, by decide +kernel⟩, by decide +kernel⟩
theorem k16001_0 : decode (qc 16001) 0 = .ok (.iload_n 1, 1) := by decide +kernel
theorem k16001_1 : decode (qc 16001) 1 = .ok (.invokestatic 88, 3) := by decide +kernel
theorem k16001_4 : decode (qc 16001) 4 = .ok (.ifCond .ne 5, 3) := by decide +kernel
theorem k16001_7 : decode (qc 16001) 7 = .ok (.iconst (-1), 1) := by decide +kernel
theorem k16001_8 : decode (qc 16001) 8 = .ok (.ireturn, 1) := by decide +kernel
theorem k16001_9 : decode (qc 16001) 9 = .ok (.iload_n 2, 1) := by decide +kernel
theorem k16001_10 : decode (qc 16001) 10 = .ok (.iconst 0, 1) := by decide +kernel
theorem k16001_11 : decode (qc 16001) 11 = .ok (.invokestatic 92, 3) := by decide +kernel
theorem k16001_14 : decode (qc 16001) 14 = .ok (.istore_n 2, 1) := by decide +kernel
theorem k16001_15 : decode (qc 16001) 15 = .ok (.iload_n 3, 1) := by decide +kernel
theorem k16001_16 : decode (qc 16001) 16 = .ok (.aload_n 0, 1) := by decide +kernel
theorem k16001_17 : decode (qc 16001) 17 = .ok (.arraylength, 1) := by decide +kernel
theorem k16001_18 : decode (qc 16001) 18 = .ok (.invokestatic 38, 3) := by decide +kernel
theorem k16001_21 : decode (qc 16001) 21 = .ok (.istore_n 3, 1) := by decide +kernel
theorem k16001_22 : decode (qc 16001) 22 = .ok (.iload_n 2, 1) := by decide +kernel
theorem k16001_23 : decode (qc 16001) 23 = .ok (.iload_n 3, 1) := by decide +kernel
theorem k16001_24 : decode (qc 16001) 24 = .ok (.if_icmp .lt 5, 3) := by decide +kernel
theorem k16001_27 : decode (qc 16001) 27 = .ok (.iconst (-1), 1) := by decide +kernel
theorem k16001_28 : decode (qc 16001) 28 = .ok (.ireturn, 1) := by decide +kernel
theorem k16001_29 : decode (qc 16001) 29 = .ok (.aload_n 0, 1) := by decide +kernel
theorem k16001_30 : decode (qc 16001) 30 = .ok (.iload_n 1, 1) := by decide +kernel
theorem k16001_31 : decode (qc 16001) 31 = .ok (.iload_n 2, 1) := by decide +kernel
theorem k16001_32 : decode (qc 16001) 32 = .ok (.iload_n 3, 1) := by decide +kernel
theorem k16001_33 : decode (qc 16001) 33 = .ok (.invokestatic 95, 3) := by decide +kernel
theorem k16001_36 : decode (qc 16001) 36 = .ok (.ireturn, 1) := by decide +kernel
theorem cb16002 : qCb 16002 4 := ⟨by decide +kernel, rfl, by decide +kernel, (qGW_at 505 (by decide +kernel) (by decide +kernel)), (qGW_at 119 (by decide +kernel) (by decide +kernel)), ⟨by decide +kernel, by decide +kernel⟩, by decide +kernel⟩
theorem k16002_0 : decode (qc 16002) 0 = .ok (.iload_n 1, 1) := by decide +kernel
theorem k16002_1 : decode (qc 16002) 1 = .ok (.i2b, 1) := by decide +kernel
theorem k16002_2 : decode (qc 16002) 2 = .ok (.istore 4, 2) := by decide +kernel
theorem k16002_4 : decode (qc 16002) 4 = .ok (.iload_n 2, 1) := by decide +kernel
theorem k16002_5 : decode (qc 16002) 5 = .ok (.istore 5, 2) := by decide +kernel
theorem k16002_7 : decode (qc 16002) 7 = .ok (.iload 5, 2) := by decide +kernel
theorem k16002_9 : decode (qc 16002) 9 = .ok (.iload_n 3, 1) := by decide +kernel
theorem k16002_10 : decode (qc 16002) 10 = .ok (.if_icmp .ge 21, 3) := by decide +kernel
theorem k16002_13 : decode (qc 16002) 13 = .ok (.aload_n 0, 1) := by decide +kernel
theorem k16002_14 : decode (qc 16002) 14 = .ok (.iload 5, 2) := by decide +kernel
theorem k16002_16 : decode (qc 16002) 16 = .ok (.baload, 1) := by decide +kernel
theorem k16002_17 : decode (qc 16002) 17 = .ok (.iload 4, 2) := by decide +kernel
theorem k16002_19 : decode (qc 16002) 19 = .ok (.if_icmp .ne 6, 3) := by decide +kernel
theorem k16002_22 : decode (qc 16002) 22 = .ok (.iload 5, 2) := by decide +kernel
theorem k16002_24 : decode (qc 16002) 24 = .ok (.ireturn, 1) := by decide +kernel
theorem k16002_25 : decode (qc 16002) 25 = .ok (.iinc 5 1, 3) := by decide +kernel
theorem k16002_28 : decode (qc 16002) 28 = .ok (.goto (-21), 3) := by decide +kernel
theorem k16002_31 : decode (qc 16002) 31 = .ok (.iconst (-1), 1) := by decide +kernel
theorem k16002_32 : decode (qc 16002) 32 = .ok (.ireturn, 1) := by decide +kernel
theorem tt2_78 : qCtx 2 78 15000 0 := ⟨cb15000, (qGW_at 470 (by decide +kernel) (by decide +kernel)), (qGW_at 468 (by decide +kernel) (by decide +kernel)), (qGW_at 469 (by decide +kernel) (by decide +kernel))⟩
theorem tt2_83 : qCtx 2 83 15003 1 := ⟨cb15003, (qGW_at 480 (by decide +kernel) (by decide +kernel)), (qGW_at 478 (by decide +kernel) (by decide +kernel)), (qGW_at 479 (by decide +kernel) (by decide +kernel))⟩
theorem tt15_335 : qCtx 15 335 15001 0 := ⟨cb15001, (qGW_at 474 (by decide +kernel) (by decide +kernel)), (qGW_at 472 (by decide +kernel) (by decide +kernel)), (qGW_at 473 (by decide +kernel) (by decide +kernel))⟩
theorem tt15_633 : qCtx 15 633 15004 2 := ⟨cb15004, (qGW_at 484 (by decide +kernel) (by decide +kernel)), (qGW_at 482 (by decide +kernel) (by decide +kernel)), (qGW_at 483 (by decide +kernel) (by decide +kernel))⟩
theorem tt15_492 : qCtx 15 492 15002 0 := ⟨cb15002, (qGW_at 488 (by decide +kernel) (by decide +kernel)), (qGW_at 486 (by decide +kernel) (by decide +kernel)), (qGW_at 487 (by decide +kernel) (by decide +kernel))⟩
theorem tt15_505 : qCtx 15 505 15000 0 := ⟨cb15000, (qGW_at 470 (by decide +kernel) (by decide +kernel)), (qGW_at 490 (by decide +kernel) (by decide +kernel)), (qGW_at 469 (by decide +kernel) (by decide +kernel))⟩
theorem s15_637 : qCs 15 637 16001 4 := ⟨cb16001, (qGW_at 491 (by decide +kernel) (by decide +kernel)), (qGW_at 492 (by decide +kernel) (by decide +kernel))⟩
theorem s16_88 : qCs 16 88 16000 1 := ⟨cb16000, (qGW_at 494 (by decide +kernel) (by decide +kernel)), (qGW_at 495 (by decide +kernel) (by decide +kernel))⟩
theorem s16_95 : qCs 16 95 16002 4 := ⟨cb16002, (qGW_at 503 (by decide +kernel) (by decide +kernel)), (qGW_at 504 (by decide +kernel) (by decide +kernel))⟩
theorem m16_92 : Cond.methodLink (qcn 16) 92 Lib.Math.max.name ∈ qGW := (qGW_at 497 (by decide +kernel) (by decide +kernel))
theorem m16_38 : Cond.methodLink (qcn 16) 38 Lib.Math.min.name ∈ qGW := (qGW_at 500 (by decide +kernel) (by decide +kernel))
theorem fs15_9 : Cond.fieldLink (qcn 15) 9 "java/lang/String" "value" "[B" ∈ qGW := (qGW_at 1867 (by decide +kernel) (by decide +kernel))
theorem fs15_15 : Cond.fieldLink (qcn 15) 15 "java/lang/String" "coder" "B" ∈ qGW := (qGW_at 1868 (by decide +kernel) (by decide +kernel))
theorem fs15_38 : Cond.fieldLink (qcn 15) 38 "java/lang/String" "COMPACT_STRINGS" "Z" ∈ qGW := (qGW_at 476 (by decide +kernel) (by decide +kernel))
/-- from place i on, the first that is bb -/
def sLp (bb : Int32) : List Int32 → Nat → Int32
  | [], _ => -1
  | x :: t, i => if x = bb then nI i else sLp bb t (i + 1)
/-- where the letter c stands in the text j -/
def sFind (j : Nat) (c : Int32) : Int32 := if j = 0 then (if c = 97 then 0 else if c = 111 then 1 else if c = 119 then 2 else -1) else if j = 1 then (if c = 97 then 0 else -1) else (if c = 114 then 0 else if c = 104 then 1 else if c = 110 then 2 else if c = 112 then 3 else -1)
theorem sFind_lp : ∀ (j : Fin 3) (u : Fin 256), sLp (nI u.val).toInt8.toInt32 (sByt j.val) 0 = sFind j.val (nI u.val) := by decide +kernel
section L36zt
variable {d : Nat} {K : qK} {I : Nat → Nat → Int32} {L : Nat → Nat → Int64} {R : Nat → Nat → Option Nat} {sz : Nat} {Q : Option Value → qMem → Prop} {j : Nat}
theorem s15001 (hj : j < 3) (hq : Q (some (.int 0)) (K, I, L, R, sz)) : X d 0 0 15001 0 0 0 (qent (qml 15001) [.ref (1000000 + j)]) [] (K, I, L, R, sz) Q := show X _ 0 0 15001 0 0 0 [some (.ref (1000000 + j))] [] _ _ from x_sG k15001_0 fs15_38 <| x_ifeqF (tgt := 13) k15001_3 (by decide) (show ¬ (1 : Int32) = 0 by decide) <| x_ald0 k15001_6 <| x_sC hj k15001_7 fs15_15 <| x_goto (tgt := 14) k15001_10 (by decide) <| x_bret k15001_14 rfl (Or.inl rfl) (Nat.le_refl _) (Nat.le_refl _) <| hq
theorem s15002 (hj : j < 3) (hq : Q (some (.int 1)) (K, I, L, R, sz)) : X d 0 0 15002 0 0 0 (qent (qml 15002) [.ref (1000000 + j)]) [] (K, I, L, R, sz) Q := show X _ 0 0 15002 0 0 0 [some (.ref (1000000 + j))] [] _ _ from x_sG k15002_0 fs15_38 <| x_ifeqF (tgt := 17) k15002_3 (by decide) (show ¬ (1 : Int32) = 0 by decide) <| x_ald0 k15002_6 <| x_sC hj k15002_7 fs15_15 <| x_ifneF (tgt := 17) k15002_10 (by decide) (show (0 : Int32) = 0 by decide) <| x_iconst (v := 1) k15002_13 rfl <| x_goto (tgt := 18) k15002_14 (by decide) <| x_zret k15002_18 rfl (Or.inr rfl) (Nat.le_refl _) (Nat.le_refl _) <| hq
theorem s15000 (hj : j < 3) (hq : Q (some (.int (nI (sLen j)))) (K, I, L, R, sz)) : X (d + 1) 0 0 15000 0 0 0 (qent (qml 15000) [.ref (1000000 + j)]) [] (K, I, L, R, sz) Q := by
  have e : nI (sLen j) >>> ((0 : Int32) &&& 31) = nI (sLen j) := by
    have : j = 0 ∨ j = 1 ∨ j = 2 := by omega
    rcases this with rfl | rfl | rfl <;> decide
  exact show X _ 0 0 15000 0 0 0 [some (.ref (1000000 + j))] [] _ _ from x_ald0 k15000_0 <| x_sV hj k15000_1 fs15_9 <| x_sL hj k15000_4 <| x_ald0 k15000_5 <| x_callT (As := []) (rest := [.int (nI (sLen j))]) (MCz := 0) (MSz := 0) hj k15000_6 tt15_335 rfl rfl (Nat.le_of_ble_eq_true rfl) (Nat.le_of_ble_eq_true rfl) (Nat.le_refl _) (Nat.le_refl _) <| s15001 hj <| x_ishr k15000_9 <| x_iret k15000_10 rfl (Nat.le_refl _) (Nat.le_refl _) <| (by rw [e]; exact hq)
theorem s16000 {u : Nat} (hu : u < 256) (hq : Q (some (.int 1)) (K, I, L, R, sz)) : X d 0 0 16000 0 0 0 (qent (qml 16000) [.int (nI u)]) [] (K, I, L, R, sz) Q := show X _ 0 0 16000 0 0 0 [some (.int (nI u))] [] _ _ from x_ild0 k16000_0 <| x_ifltF (tgt := 15) k16000_1 (by decide) (nI_pos (by omega)) <| x_ild0 k16000_4 <| x_sipush (v := 255) k16000_5 rfl <| x_icmpgtF (tgt := 15) k16000_8 (by decide) (show ¬ (255 : Int32) < nI u by rw [show (255 : Int32) = nI 255 from rfl, nI_ltI (by omega) (by omega)]; omega) <| x_iconst (v := 1) k16000_11 rfl <| x_goto (tgt := 16) k16000_12 (by decide) <| x_zret k16000_16 rfl (Or.inr rfl) (Nat.le_refl _) (Nat.le_refl _) <| hq
theorem l16002 {c bb from_ : Int32} (hj : j < 3) : ∀ (t : List Int32) (i : Nat), (sByt j).drop i = t → i ≤ sLen j → Q (some (.int (sLp bb t i))) (K, I, L, R, sz) → X d 0 0 16002 0 0 7 [some (.ref (1000003 + j)), some (.int c), some (.int from_), some (.int (nI (sLen j))), some (.int bb), some (.int (nI i))] [] (K, I, L, R, sz) Q := by
  have hlen : (sByt j).length = sLen j ∧ sLen j ≤ 4 := by
    have : j = 0 ∨ j = 1 ∨ j = 2 := by omega
    rcases this with rfl | rfl | rfl <;> decide
  intro t
  induction t with
  | nil =>
    intro i ht hi hq
    have : sLen j ≤ i := by
      have := congrArg List.length ht
      rw [List.length_drop, hlen.1, List.length_nil] at this; omega
    exact x_ild5 k16002_7 <| x_ild3 k16002_9 <| x_icmpgeT (tgt := 31) k16002_10 (by decide) (nI_le this (by omega)) <| x_iconst (v := -1) k16002_31 rfl <| x_iret k16002_32 rfl (Nat.le_refl _) (Nat.le_refl _) <| hq
  | cons x t ih =>
    intro i ht hi hq
    have hlt : i < sLen j := by
      have := congrArg List.length ht
      rw [List.length_drop, hlen.1, List.length_cons] at this; omega
    have hx : (sByt j).getD i 0 = x := by
      have h0 : ((sByt j).drop i)[0]? = some x := by rw [ht]; rfl
      rw [List.getElem?_drop, Nat.add_zero] at h0
      rw [List.getD_eq_getElem?_getD, h0]; rfl
    have htl : (sByt j).drop (i + 1) = t := by
      have := congrArg (List.drop 1) ht
      rw [List.drop_drop] at this
      simpa using this
    rw [sLp] at hq
    refine x_ild5 k16002_7 <| x_ild3 k16002_9 <| x_icmpgeF (tgt := 31) k16002_10 (by decide) (nI_ge hlt (by omega)) <| x_ald0 k16002_13 <| x_ild5 k16002_14 <| x_sB hj hlt k16002_16 <| x_ild4 k16002_17 <| x_icmpne (tgt := 25) k16002_19 (by decide) (fun h => ?_) (fun h => ?_)
    · rw [hx] at h
      rw [if_neg h] at hq
      refine x_inc5 (c := 1) k16002_25 rfl (Nat.le_of_ble_eq_true rfl) rfl <| x_goto (tgt := 7) k16002_28 (by decide) ?_
      rw [nI_1]
      exact ih (i + 1) htl (by omega) hq
    · rw [hx] at h
      rw [if_pos h] at hq
      exact x_ild5 k16002_22 <| x_iret k16002_24 rfl (Nat.le_refl _) (Nat.le_refl _) <| hq
theorem s16002 {u : Nat} (hj : j < 3) (hq : Q (some (.int (sLp (nI u).toInt8.toInt32 (sByt j) 0))) (K, I, L, R, sz)) : X d 0 0 16002 0 0 0 (qent (qml 16002) [.ref (1000003 + j), .int (nI u), .int 0, .int (nI (sLen j))]) [] (K, I, L, R, sz) Q := show X _ 0 0 16002 0 0 0 [some (.ref (1000003 + j)), some (.int (nI u)), some (.int 0), some (.int (nI (sLen j))), none, none] [] _ _ from x_ild1 k16002_0 <| x_i2b k16002_1 <| x_ist4 k16002_2 (Nat.le_of_ble_eq_true rfl) rfl <| x_ild2 k16002_4 <| x_ist5 k16002_5 (Nat.le_of_ble_eq_true rfl) rfl <| l16002 (i := 0) hj _ rfl (Nat.zero_le _) hq
theorem s16001 {u : Nat} (hj : j < 3) (hu : u < 256) (hq : Q (some (.int (sLp (nI u).toInt8.toInt32 (sByt j) 0))) (K, I, L, R, sz)) : X (d + 1) 0 0 16001 0 0 0 (qent (qml 16001) [.ref (1000003 + j), .int (nI u), .int 0, .int (nI (sLen j))]) [] (K, I, L, R, sz) Q := by
  have hlen : 0 < sLen j ∧ sLen j ≤ 4 := by
    have : j = 0 ∨ j = 1 ∨ j = 2 := by omega
    rcases this with rfl | rfl | rfl <;> decide
  refine show X _ 0 0 16001 0 0 0 [some (.ref (1000003 + j)), some (.int (nI u)), some (.int 0), some (.int (nI (sLen j)))] [] _ _ from x_ild1 k16001_0 <| x_cS1 (MCz := 0) (MSz := 0) k16001_1 s16_88 (Nat.le_of_ble_eq_true rfl) (Nat.le_of_ble_eq_true rfl) (Nat.le_refl _) (Nat.le_refl _) <| s16000 hu <| x_ifneT (tgt := 9) k16001_4 (by decide) (show ¬ (1 : Int32) = 0 by decide) <| x_ild2 k16001_9 <| x_iconst (v := 0) k16001_10 rfl <| x_mmax k16001_11 m16_92 qs_max qi_Math qk_max (Nat.le_of_ble_eq_true rfl) (Nat.le_refl _) (Nat.le_refl _) ?_
  rw [ite_self]
  refine x_ist2 k16001_14 (Nat.le_of_ble_eq_true rfl) rfl <| x_ild3 k16001_15 <| x_ald0 k16001_16 <| x_sL hj k16001_17 <| x_mmin k16001_18 m16_38 qs_min qi_Math qk_min (Nat.le_of_ble_eq_true rfl) (Nat.le_refl _) (Nat.le_refl _) ?_
  rw [ite_self]
  exact x_ist3 k16001_21 (Nat.le_of_ble_eq_true rfl) rfl <| x_ild2 k16001_22 <| x_ild3 k16001_23 <| x_icmpltT (tgt := 29) k16001_24 (by decide) (show (0 : Int32) < nI (sLen j) by rw [show (0 : Int32) = nI 0 from rfl, nI_ltI (by omega) (by omega)]; omega) <| x_ald0 k16001_29 <| x_ild1 k16001_30 <| x_ild2 k16001_31 <| x_ild3 k16001_32 <| x_callS (As := [.ref (1000003 + j), .int (nI u), .int 0, .int (nI (sLen j))]) (rest := []) (MCz := 0) (MSz := 0) k16001_33 s16_95 rfl rfl (Nat.le_of_ble_eq_true rfl) (Nat.le_of_ble_eq_true rfl) (Nat.le_refl _) (Nat.le_refl _) <| s16002 hj <| x_iret k16001_36 rfl (Nat.le_refl _) (Nat.le_refl _) <| hq
theorem s15004 {u : Nat} (hj : j < 3) (hu : u < 256) (hq : Q (some (.int (sFind j (nI u)))) (K, I, L, R, sz)) : X (d + 2) 0 0 15004 0 0 0 (qent (qml 15004) [.ref (1000000 + j), .int (nI u), .int 0]) [] (K, I, L, R, sz) Q := by
  have e := sFind_lp ⟨j, hj⟩ ⟨u, hu⟩
  rw [← show sLp (nI u).toInt8.toInt32 (sByt j) 0 = sFind j (nI u) from e] at hq
  exact show X _ 0 0 15004 0 0 0 [some (.ref (1000000 + j)), some (.int (nI u)), some (.int 0)] [] _ _ from x_ald0 k15004_0 <| x_callT (As := []) (rest := []) (MCz := 0) (MSz := 0) hj k15004_1 tt15_492 rfl rfl (Nat.le_of_ble_eq_true rfl) (Nat.le_of_ble_eq_true rfl) (Nat.le_refl _) (Nat.le_refl _) <| s15002 hj <| x_ifeqF (tgt := 23) k15004_4 (by decide) (show ¬ (1 : Int32) = 0 by decide) <| x_ald0 k15004_7 <| x_sV hj k15004_8 fs15_9 <| x_ild1 k15004_11 <| x_ild2 k15004_12 <| x_ald0 k15004_13 <| x_callT (As := []) (rest := [.int 0, .int (nI u), .ref (1000003 + j)]) (MCz := 0) (MSz := 0) hj k15004_14 tt15_505 rfl rfl (Nat.le_of_ble_eq_true rfl) (Nat.le_of_ble_eq_true rfl) (Nat.le_refl _) (Nat.le_refl _) <| s15000 hj <| x_callS (As := [.ref (1000003 + j), .int (nI u), .int 0, .int (nI (sLen j))]) (rest := []) (MCz := 0) (MSz := 0) k15004_17 s15_637 rfl rfl (Nat.le_of_ble_eq_true rfl) (Nat.le_of_ble_eq_true rfl) (Nat.le_refl _) (Nat.le_refl _) <| s16001 hj hu <| x_goto (tgt := 36) k15004_20 (by decide) <| x_iret k15004_36 rfl (Nat.le_refl _) (Nat.le_refl _) <| hq
theorem s15003 {u : Nat} (hj : j < 3) (hu : u < 256) (hq : Q (some (.int (sFind j (nI u)))) (K, I, L, R, sz)) : X (d + 3) 0 0 15003 0 0 0 (qent (qml 15003) [.ref (1000000 + j), .int (nI u)]) [] (K, I, L, R, sz) Q := show X _ 0 0 15003 0 0 0 [some (.ref (1000000 + j)), some (.int (nI u))] [] _ _ from x_ald0 k15003_0 <| x_ild1 k15003_1 <| x_iconst (v := 0) k15003_2 rfl <| x_callT (As := [.int (nI u), .int 0]) (rest := []) (MCz := 0) (MSz := 0) hj k15003_3 tt15_633 rfl rfl (Nat.le_of_ble_eq_true rfl) (Nat.le_of_ble_eq_true rfl) (Nat.le_refl _) (Nat.le_refl _) <| s15004 hj hu <| x_iret k15003_6 rfl (Nat.le_refl _) (Nat.le_refl _) <| hq
end L36zt
