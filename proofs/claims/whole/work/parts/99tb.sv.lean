/-! the servant that may be refused: the class throws (11005), the law's own method catches (13001) -/
theorem k13001_0 : decode (qc 13001) 0 = .ok (.aload_n 3, 1) := by decide +kernel
theorem k13001_1 : decode (qc 13001) 1 = .ok (.iconst 0, 1) := by decide +kernel
theorem k13001_2 : decode (qc 13001) 2 = .ok (.aload_n 0, 1) := by decide +kernel
theorem k13001_3 : decode (qc 13001) 3 = .ok (.iload_n 1, 1) := by decide +kernel
theorem k13001_4 : decode (qc 13001) 4 = .ok (.iload_n 2, 1) := by decide +kernel
theorem k13001_5 : decode (qc 13001) 5 = .ok (.invokevirtual 7, 3) := by decide +kernel
theorem k13001_8 : decode (qc 13001) 8 = .ok (.i2l, 1) := by decide +kernel
theorem k13001_9 : decode (qc 13001) 9 = .ok (.lastore, 1) := by decide +kernel
theorem k13001_10 : decode (qc 13001) 10 = .ok (.goto 7, 3) := by decide +kernel
theorem k13001_13 : decode (qc 13001) 13 = .ok (.astore 4, 2) := by decide +kernel
theorem k13001_15 : decode (qc 13001) 15 = .ok (.iconst 1, 1) := by decide +kernel
theorem k13001_16 : decode (qc 13001) 16 = .ok (.ireturn, 1) := by decide +kernel
theorem k13001_17 : decode (qc 13001) 17 = .ok (.iconst 0, 1) := by decide +kernel
theorem k13001_18 : decode (qc 13001) 18 = .ok (.ireturn, 1) := by decide +kernel
theorem cb11005 : qCb 11005 2 := ⟨by decide +kernel, rfl, by decide +kernel, (qGW_at 1179 (by decide +kernel) (by decide +kernel)), (qGW_at 107 (by decide +kernel) (by decide +kernel)), ⟨by decide +kernel, by decide +kernel⟩, by decide +kernel⟩
theorem v13_7_10 : qCv 13 7 11005 10 2 := ⟨cb11005, ⟨_, _, _, rfl, (qGW_at 1178 (by decide +kernel) (by decide +kernel))⟩, (qGW_at 1176 (by decide +kernel) (by decide +kernel)), (qGW_at 1177 (by decide +kernel) (by decide +kernel))⟩
theorem sv_link : Cond.classLink "LastThanked" 137 "java/util/NoSuchElementException" ∈ qGW := qGW_at 1180 (by decide +kernel) (by decide +kernel)
theorem sv_linkL : Cond.classLink "LastThankedLaw" 13 "java/util/NoSuchElementException" ∈ qGW := qGW_at 1175 (by decide +kernel) (by decide +kernel)
theorem sv_init : Cond.initialized "java/util/NoSuchElementException" ∈ qGW := qGW_at 128 (by decide +kernel) (by decide +kernel)
theorem sv_with : Cond.codeWith (qn 13001) (qc 13001) (qml 13001) (qr 13001) [(0, 10, 13, 13)] ∈ qGW := qGW_at 1174 (by decide +kernel) (by decide +kernel)
theorem sv_stat : Cond.static (qn 13001) ∈ qGW := qGW_at 1173 (by decide +kernel) (by decide +kernel)
theorem sv_meth : Cond.methodLink (qcn 13) 38 (qn 13001) ∈ qGW := qGW_at 1172 (by decide +kernel) (by decide +kernel)
theorem sv_law : Cond.initialized (qn 13001).cls ∈ qGW := qGW_at 106 (by decide +kernel) (by decide +kernel)
theorem sv_x0 : ∀ w ∈ (vx_at0 "LastThanked" 139 "java/util/NoSuchElementException" ["java/lang/RuntimeException", "java/lang/Exception"]).filter goodWord, w ∈ lw_tbl := by decide +kernel
theorem sv_x1 : ∀ w ∈ (vx_at0 "LastThanked" 139 "java/util/NoSuchElementException" ["java/lang/RuntimeException", "java/lang/Exception"]).filter (fun w => !goodWord w), w ∈ zN := by decide +kernel
theorem sv_x2 : ∀ w ∈ Cond.classLink "LastThanked" 137 "java/util/NoSuchElementException" :: Cond.initialized "java/util/NoSuchElementException" :: vx_at0 "LastThanked" 139 "java/util/NoSuchElementException" ["java/lang/RuntimeException", "java/lang/Exception"], vx_ot w = true := by decide +kernel
theorem zN_use {s : State} {args : Array Value} (h : ∀ w ∈ zN, va_Nw w s) : ∀ w ∈ zN, w.before args s = true := by
  intro w hw
  have hz := h w hw
  simp only [zN, List.mem_cons, List.mem_nil_iff, or_false] at hw
  rcases hw with rfl | rfl | rfl | rfl <;> exact va_Nw.use rfl hz
theorem sv_hat {s : State} {args : Array Value} (hts : ∀ w ∈ qGW, w.before args s = true) (h : ∀ w ∈ zN, va_Nw w s) : ∀ w ∈ vx_at0 "LastThanked" 139 "java/util/NoSuchElementException" ["java/lang/RuntimeException", "java/lang/Exception"], w.before args s = true :=
  vx_hat (fun w hw => hts w (qGW_of (sv_x0 w hw) (List.mem_filter.mp hw).2)) sv_x1 (zN_use h)
/-- the exception that leaves: nothing of the memory is touched, and the heap has grown -/
def xcS (D : va_G) (cA : Nat → ClassId) (b0 : Nat) (sa : Nat → Nat) (K : qK) (I : Nat → Nat → Int32) (L : Nat → Nat → Int64) (R : Nat → Nat → Option Nat) (sz : Nat) (B : Prop) : String → State → State → Prop := fun E st t =>
  E = "java/util/NoSuchElementException" ∧ B ∧ va_F (fun q => b0 ≤ q) st t ∧ ∀ i, i < sz → ∀ e, qE cA (qg b0 sa) K I L R i = some e → va_at D vwCl (b0 + i, e) t.heap
section L99tb
variable {d : Nat} {K : qK} {I : Nat → Nat → Int32} {L : Nat → Nat → Int64} {R : Nat → Nat → Option Nat} {sz : Nat} {p : qPa}
theorem sv_b3 {b : Int32} : (0 ≤ b ∧ b ≤ 2) ↔ qIn 3 b := by
  rw [qIn_iff (by omega)]
  have e2 : (2 : Int32).toInt = 2 := rfl
  have e3 : (nI 3 : Int32).toInt = 3 := rfl
  rw [i_le, i_le, i_lt, e2, e3]; omega
theorem x11005 {a b : Int32} {Q : Option Value → qMem → Prop} (hK : qLay K sz) (hR : qRef R) (cI : CI I p) (ha : qIn (pS p) a) (hb : qIn 3 b) (hq : Q (some (.int (fServant I a b))) (K, I, L, R, sz)) : X (d + 6) 1 6 11005 0 0 0 (qent (qml 11005) [.ref 0, .int a, .int b]) [] (K, I, L, R, sz) Q :=
  have h02 := sv_b3.mpr hb
  have va5 : vp_in a 5 := qIn_vp ha cI.w5 (by omega)
  have vb3 : vp_in b 3 := qIn_vp hb (Nat.le_refl _) (by omega)
  show X (d + 5 + 1) 1 6 11005 0 0 0 [some (.ref 0), some (.int a), some (.int b)] [] _ _ from
  x_ald0 k11005_0 <| x_ild1 k11005_1 <| x_cV1 (MCz := 0) (MSz := 0) k11005_2 v11_133_10 (hK.at rfl) (Nat.le_of_ble_eq_true rfl) (Nat.le_of_ble_eq_true rfl) (Nat.le_of_ble_eq_true rfl) (Nat.le_of_ble_eq_true rfl) <| u11039 hK hR cI (fun _ => x_ifeqF (tgt := 17) k11005_5 (by decide) (show ¬ (1 : Int32) = 0 by decide) <| x_ild2 k11005_8 <| x_ifltF (tgt := 17) k11005_9 (by decide) (inl.mpr h02.1) <| x_ild2 k11005_12 <| x_iconst (v := 2) k11005_13 rfl <| x_icmpleT (tgt := 25) k11005_14 (by decide) h02.2 <| x_ald0 k11005_25 <| x_getR k11005_26 f11_35_10 (hK.at rfl) rfl (hR _ _ _ rfl) <| x_getR k11005_29 f11_140_1 (hK.at rfl) rfl (hR _ _ _ rfl) <| x_ild1 k11005_32 <| x_aald k11005_33 (hK.at rfl) va5 (qrowR23 hR va5) <| x_ild2 k11005_34 <| x_iald k11005_35 (qrowK23 hK va5) vb3 <| x_iret k11005_36 rfl (Nat.le_of_ble_eq_true rfl) (Nat.le_of_ble_eq_true rfl) hq) (fun g => absurd ha g)
/-- what the class's servant does, answered or refused -/
theorem m11005 {a b : Int32} (hK : qLay K sz) (hR : qRef R) (cI : CI I p) (l : Launch) (D : va_G) (cA : Nat → ClassId) (b0 : Nat) (sa : Nat → Nat) :
    vx_Met l (qn 11005) (qWs 11005) (qRm (d + 6) 1 6) (va_Pc ([Value.ref 0, .int a, .int b].map (qv (qg b0 sa))) (fun U => (qS D cA b0 sa U ∧ qH D cA (qg b0 sa) b0 K I L R sz U.heap) ∧ zE b0 l U)) (qQ D cA b0 sa (fun r M => r = some (.int (fServant I a b)) ∧ M = (K, I, L, R, sz) ∧ qIn (pS p) a ∧ qIn 3 b)) (xcS D cA b0 sa K I L R sz (¬ (qIn (pS p) a ∧ qIn 3 b))) 1 6 (fun q => b0 ≤ q) := by
  refine vx_ofW (cc := qc 11005) (maxL := qml 11005) (ret := qr 11005) (by decide +kernel) rfl ?_
  intro p0 e s m args below meth c s₁ B hml htab hv
  obtain ⟨rfl, ⟨hSs, hHs⟩, hZ⟩ := hv
  have hts0 := atoms_spec (ws := qWs 11005) B.pre
  have hl := q_entry (g := qg b0 sa) (av := [.ref 0, .int a, .int b]) (n := qml 11005) (by rw [lg_sl_qv]; exact Nat.le_of_ble_eq_true rfl)
  rw [lg_entry_eq]
  have hC : qC p0 (headSpec (qWs 11005) (qRm (d + 6) 1 6)).room s m _ meth c (d + 6) 1 6 11005 D cA b0 sa := ⟨B.exec, B.bytes, B.returns, B.notSynchronized, hml, findClass_of_methodNamed B.named, (name_of_methodNamed B.named B.method).1, fun w hw => hts0 w (List.mem_cons_of_mem _ hw), ⟨Nat.le_refl _, Nat.le_refl _, Nat.le_refl _, Nat.le_refl _⟩, hSs⟩
  have hts := hC.2.2.2.2.2.2.2.1
  by_cases hab : qIn (pS p) a ∧ qIn 3 b
  · exact vx_ret (x11005 (d := d) hK hR cI hab.1 hab.2 ⟨rfl, rfl, hab⟩ p0 l e _ s m _ below meth c D cA b0 sa s.heap [] _ hC hl hHs va_S.rf)
  · have hthrow : ∀ (H1 : Heap) (locs1 : List Loc), qH D cA (qg b0 sa) b0 K I L R sz H1 → va_S (fun q => b0 ≤ q) s.heap H1 locs1 → W p0 l e (headSpec (qWs 11005) (qRm (d + 6) 1 6)).room s m _ below meth c H1 locs1 (0 + 0) (0 + 0) (vx_MQ below (qQ D cA b0 sa (fun r M => r = some (.int (fServant I a b)) ∧ M = (K, I, L, R, sz) ∧ qIn (pS p) a ∧ qIn 3 b)) (xcS D cA b0 sa K I L R sz (¬ (qIn (pS p) a ∧ qIn 3 b))) _ s 1 6 (fun q => b0 ≤ q)) (F0 m 17 _ []) := fun H1 locs1 g1 g2 =>
      vx_throw0 (cc := qc 11005) (own := "LastThanked") (cls := "java/util/NoSuchElementException") (names := ["java/lang/RuntimeException", "java/lang/Exception"]) (ik := 137) (ic := 139) (A := fun q => b0 ≤ q) hC.1 hC.2.1 hZ.1 hC.2.2.2.2.2.1 (by decide +kernel) (by decide +kernel) (hts _ sv_link) (hts _ sv_init) (sv_hat hts hZ.2.2.2) sv_x2 hZ.2.1 hZ.2.2.1 g2 (hl.1.trans hml.symm) k11005_17 k11005_20 k11005_21 k11005_24 (fun x hx => (htab x hx).elim)
        (by show 2 + 3 < d + 6; omega) (by show 0 + (13 * (2 + 1) + 42) ≤ 64 * (d + 6); omega) (by show 0 + 0 + 1 ≤ 1; omega) (by show 0 + 0 + 6 ≤ 6; omega) hC.2.2.2.1
        (fun t _ hz hk => ⟨rfl, hab, ⟨Nat.le_trans g2.1 hz, fun q h1 h2 => (hk q (Nat.lt_of_lt_of_le h1 g2.1)).trans (g2.2.1 q h1 h2)⟩, fun i hi e he => (g1.2.2 i hi e he).kept (hk _ (by rw [g1.1]; exact Nat.add_lt_add_left hi b0))⟩) g2.2.2 (by omega) (by omega)
    have h39 : X (d + 5) 0 0 11039 0 0 0 (qent (qml 11039) [.ref 0, .int a]) [] (K, I, L, R, sz) (fun r M => (r = some (.int 1) ∧ qIn (pS p) a ∨ r = some (.int 0) ∧ ¬ qIn (pS p) a) ∧ M = (K, I, L, R, sz)) := u11039 hK hR cI (fun h => ⟨Or.inl ⟨rfl, h⟩, rfl⟩) (fun h => ⟨Or.inr ⟨rfl, h⟩, rfl⟩)
    refine lv_aload_n hC.1 hC.2.1 k11005_0 rfl (q_ld (v := .ref 0) hl rfl) ?_
    refine lv_iload_n hC.1 hC.2.1 k11005_1 rfl (q_ld (v := .int a) hl rfl) ?_
    refine w_callV (d := d + 5) (As := [.int a]) (i := 0) (rest := []) (MCz := 0) (MSz := 0) (uc := 0) (us := 0) hC hl hHs va_S.rf k11005_2 v11_133_10 (hK.at rfl) rfl (Nat.le_of_ble_eq_true rfl) (Nat.le_of_ble_eq_true rfl) (Nat.le_of_ble_eq_true rfl) (Nat.le_of_ble_eq_true rfl) h39 (fun r M H1 locs1 hq g1 g2 => ?_)
    obtain ⟨hr, rfl⟩ := hq
    rcases hr with ⟨rfl, hin⟩ | ⟨rfl, hin⟩
    · refine lv_if_eq hC.1 hC.2.1 k11005_5 (tgt := 17) (by decide) (fun h => absurd h (by decide)) (fun _ => ?_)
      refine lv_iload_n hC.1 hC.2.1 k11005_8 rfl (q_ld (v := .int b) hl rfl) ?_
      refine lv_if_lt hC.1 hC.2.1 k11005_9 (tgt := 17) (by decide) (fun _ => hthrow H1 locs1 g1 g2) (fun h0 => ?_)
      refine lv_iload_n hC.1 hC.2.1 k11005_12 rfl (q_ld (v := .int b) hl rfl) ?_
      refine lv_iconst hC.1 hC.2.1 k11005_13 (v := 2) rfl ?_
      exact lv_icmp_le hC.1 hC.2.1 k11005_14 (tgt := 25) (by decide) (fun h2 => absurd ⟨hin, sv_b3.mp ⟨inl.mp h0, h2⟩⟩ hab) (fun _ => hthrow H1 locs1 g1 g2)
    · exact lv_if_eq hC.1 hC.2.1 k11005_5 (tgt := 17) (by decide) (fun _ => hthrow H1 locs1 g1 g2) (fun h => absurd rfl h)
end L99tb
def qKx (K : qK) (sz : Nat) : qK := fun i => if i < sz then K i else .inr (9, 0)
theorem qH_kx {D : va_G} {cA : Nat → ClassId} {g : Nat → Nat} {b0 : Nat} {K : qK} {I : Nat → Nat → Int32} {L : Nat → Nat → Int64} {R : Nat → Nat → Option Nat} {sz sz' : Nat} {H1 : Heap} (h1 : H1.size = b0 + sz') (h2 : sz' < 1000000) (hk : ∀ i, i < sz → ∀ e, qE cA g K I L R i = some e → va_at D vwCl (b0 + i, e) H1) : qH D cA g b0 (qKx K sz) I L R sz' H1 :=
  ⟨h1, h2, fun i _ e he => by
    by_cases h : i < sz
    · refine hk i h e ?_
      have e1 : qKx K sz i = K i := if_pos h
      unfold qE at he ⊢
      rw [e1] at he
      exact he
    · have e1 : qKx K sz i = .inr (9, 0) := if_neg h
      unfold qE at he
      rw [e1] at he
      simp at he⟩
section L99tb2
variable {d MC MS y : Nat} {K : qK} {I : Nat → Nat → Int32} {L : Nat → Nat → Int64} {R : Nat → Nat → Option Nat} {sz : Nat} {p : qPa}
theorem q_preX {p0 : Program} {l : Launch} {R0 : Room} {s : State} {m : MethodId} {args : Array Value} {meth : Method} {c0 : Code} {H : Heap} {locs : List Loc} {D : va_G} {cA : Nat → ClassId} {b0 : Nat} {sa : Nat → Nat} {av : List Value} (hC : qC p0 R0 s m args meth c0 d MC MS y D cA b0 sa) (hH : qH D cA (qg b0 sa) b0 K I L R sz H) (hS : va_S (fun q => b0 ≤ q) s.heap H locs) (hZ : zE b0 l s) :
    PreS s H (va_Pc (av.map (qv (qg b0 sa))) (fun U => (qS D cA b0 sa U ∧ qH D cA (qg b0 sa) b0 K I L R sz U.heap) ∧ zE b0 l U)) (av.map (qv (qg b0 sa))) := by
  obtain ⟨-, -, -, -, -, -, -, -, -, hSs⟩ := hC
  refine ⟨fun a U g mk q => ⟨q.1, ⟨qS_same (s := U) (U := U.calling g mk a) rfl (by show b0 ≤ U.heap.size; exact q.2.1.1.2.1) (fun _ _ => rfl) q.2.1.1, q.2.1.2⟩, zE_calling q.2.2⟩, fun U hU hW => ⟨rfl, ⟨qS_moved hW (by rw [hU]; exact Nat.le_trans hSs.2.1 hS.1) (fun a ha => by rw [hU]; exact hS.2.1 a (Nat.lt_of_lt_of_le ha hSs.2.1) (by show ¬ b0 ≤ a; omega)) hSs, by rw [hU]; exact hH⟩, zE_pre hZ hS hU hW⟩⟩
def qWsW : List Cond := Cond.codeWith (qn 13001) (qc 13001) (qml 13001) (qr 13001) [(0, 10, 13, 13)] :: qGW
/-- the law's own servant: answered 0 with the box filled, or 1 -/
theorem m13001 {a b : Int32} {Q : Option Value → qMem → Prop} {dd : Nat} (hd : 7 ≤ dd) (hK : qLay K sz) (hR : qRef R) (cI : CI I p) (hsz : sz + 1 < 1000000)
    (hn : qIn (pS p) a → qIn 3 b → Q (some (.int 0)) (K, I, va_up L 106 (vp_updL (L 106) (0 : Int32).toNatClampNeg (fServant I a b).toInt64), R, sz))
    (hx : ¬ (qIn (pS p) a ∧ qIn 3 b) → ∀ sz', sz ≤ sz' → sz' ≤ sz + 1 → Q (some (.int 1)) (qKx K sz, I, L, R, sz'))
    (l : Launch) (D : va_G) (cA : Nat → ClassId) (b0 : Nat) (sa : Nat → Nat) :
    Met l (qn 13001) qWsW (qRm dd 1 6) (va_Pc ([Value.ref 0, .int a, .int b, .ref 106].map (qv (qg b0 sa))) (fun U => (qS D cA b0 sa U ∧ qH D cA (qg b0 sa) b0 K I L R sz U.heap) ∧ zE b0 l U)) (qQ D cA b0 sa Q) 1 6 (fun q => b0 ≤ q) := by
  obtain ⟨d, rfl⟩ := Nat.exists_eq_add_of_le' hd
  refine va_MetW (cc := qc 13001) (maxL := qml 13001) (ret := qr 13001) (hh := [(0, 10, 13, 13)]) (by decide +kernel) rfl ?_
  intro p0 e s m args below meth c s₁ B hml hv
  obtain ⟨rfl, ⟨hSs, hHs⟩, hZ⟩ := hv
  have hts0 := atoms_spec (ws := qWsW) B.pre
  have htab := vx_table (x := qn 13001) B (hts0 _ List.mem_cons_self)
  have hl : lv_has _ (qml 13001) (qlp (qg b0 sa) 0 [some (.ref 0), some (.int a), some (.int b), some (.ref 106), none]) := q_entry (g := qg b0 sa) (av := [.ref 0, .int a, .int b, .ref 106]) (n := qml 13001) (by rw [lg_sl_qv]; exact Nat.le_of_ble_eq_true rfl)
  rw [lg_entry_eq]
  have hC : qC p0 (headSpec qWsW (qRm (d + 7) 1 6)).room s m _ meth c (d + 7) 1 6 13001 D cA b0 sa := ⟨B.exec, B.bytes, B.returns, B.notSynchronized, hml, findClass_of_methodNamed B.named, (name_of_methodNamed B.named B.method).1, fun w hw => hts0 w (List.mem_cons_of_mem _ hw), ⟨Nat.le_refl _, Nat.le_refl _, Nat.le_refl _, Nat.le_refl _⟩, hSs⟩
  have hts := hC.2.2.2.2.2.2.2.1
  have hlk := v13_7_10
  obtain ⟨hb, ⟨C, T, N, hc, hsel⟩, hlk, hin⟩ := hlk
  have hpre := q_preX (av := [.ref 0, .int a, .int b]) hC hHs va_S.rf hZ
  refine lv_aload_n hC.1 hC.2.1 k13001_0 rfl (q_ld (v := .ref 106) hl rfl) ?_
  refine lv_iconst hC.1 hC.2.1 k13001_1 (v := 0) rfl ?_
  refine lv_aload_n hC.1 hC.2.1 k13001_2 rfl (q_ld (v := .ref 0) hl rfl) ?_
  refine lv_iload_n hC.1 hC.2.1 k13001_3 rfl (q_ld (v := .int a) hl rfl) ?_
  refine lv_iload_n hC.1 hC.2.1 k13001_4 rfl (q_ld (v := .int b) hl rfl) ?_
  refine q_backX (mc := 1) (ms := 6) (rest := [Value.int 0, .ref 106].map (qv (qg b0 sa))) (vx_runV (As := [Value.int a, .int b].map (qv (qg b0 sa))) (q_fix hC) (m11005 (d := d) hK hR cI l D cA b0 sa) ⟨q_cb hb hts hlk ⟨Nat.le_refl _, Nat.le_refl _⟩, hts _ hin, hts _ hsel⟩ ⟨hpre.1, q_recv hC hHs (hK.at rfl) hc, hpre.2⟩ rfl rfl hl.1 rfl (Nat.le_of_ble_eq_true rfl) k13001_5 ⟨Nat.le_refl _, Nat.le_refl _⟩) va_S.rf (fun r M H1 locs1 hq g1 g2 => ?_) (fun E ce q9 st₀ t H1 L9 h0 ht hx9 hce hcv hcl hsz1 hL9 => ?_)
  · obtain ⟨rfl, rfl, ha, hb⟩ := hq
    have hX : X (d + 7) 1 6 13001 (0 + 1) (0 + 6) (5 + 3) [some (.ref 0), some (.int a), some (.int b), some (.ref 106), none] [.int (fServant I a b), .int 0, .ref 106] (K, I, L, R, sz) Q := x_i2l k13001_8 <| x_last k13001_9 (hK.at rfl) (qvp (by decide)) <| x_goto (tgt := 17) k13001_10 (by decide) <| x_iconst (v := 0) k13001_17 rfl <| x_iret k13001_18 rfl (Nat.le_of_ble_eq_true rfl) (Nat.le_of_ble_eq_true rfl) (hn ha hb)
    exact hX p0 l e _ s m _ below meth c D cA b0 sa H1 locs1 _ hC hl g1 g2
  · obtain ⟨rfl, hab, hF, hat⟩ := hx9
    subst ht
    have hF1 := hF.1
    have hF2 := hF.2
    rw [h0] at hF1 hF2
    have hs0 : s.heap.size = b0 + sz := hHs.1
    refine vx_catch (own := "LastThankedLaw") (name := "java/util/NoSuchElementException") (E := "java/util/NoSuchElementException") hC.2.2.2.2.2.1 [] ⟨0, 10, 13, 13⟩ [] htab (fun z hz => nomatch hz) (by decide) (by decide) (hts _ sv_linkL) (zN_use hZ.2.2.2 _ List.mem_cons_self) hce hcv hcl ?_
    refine lv_astore hC.1 hC.2.1 k13001_13 hl (Nat.le_of_ble_eq_true rfl) rfl (fun ls3 h3 => ?_)
    have hl3 : lv_has ls3 (qml 13001) (qlp (qg b0 sa) 0 [some (.ref 0), some (.int a), some (.int b), some (.ref 106), none]) := ⟨h3.1, h3.2.1, fun q hq => h3.2.2 q (List.mem_cons_of_mem _ (List.mem_filter.mpr ⟨hq, by
      have hq' : q ∈ [(0, qv (qg b0 sa) (.ref 0)), (1, qv (qg b0 sa) (.int a)), (2, qv (qg b0 sa) (.int b)), (3, qv (qg b0 sa) (.ref 106))] := hq
      simp only [List.mem_cons, List.mem_nil_iff, or_false] at hq'
      rcases hq' with rfl | rfl | rfl | rfl <;> rfl⟩))⟩
    have hX : X (d + 7) 1 6 13001 (0 + 1) (0 + 6) (13 + 2) [some (.ref 0), some (.int a), some (.int b), some (.ref 106), none] [] (qKx K sz, I, L, R, t.heap.size - b0) Q := x_iconst (v := 1) k13001_15 rfl <| x_iret k13001_16 rfl (Nat.le_of_ble_eq_true rfl) (Nat.le_of_ble_eq_true rfl) (hx hab _ (by omega) (by omega))
    exact hX p0 l e _ s m _ below meth c D cA b0 sa t.heap _ ls3 hC hl3 (qH_kx (sz' := t.heap.size - b0) (by omega) (by omega) hat) ⟨hF1, hF2, hL9⟩
end L99tb2
