/-! the class reads houses: what is said -/
abbrev hLo2 (c : Int32) : Int32 := if c = 104 ∨ c = 110 then 1 else 0
abbrev hHi2 (I : Nat → Nat → Int32) (c : Int32) : Int32 := if c = 111 then 2 else if c = 119 then 9 else if c = 104 then 3 else if c = 110 then 30 else if c = 112 then (I 4 3) - 2 else (I 4 0) - 1
def hTw (a : Int32) : Prop := ∃ u, u < 256 ∧ a = nI u
abbrev hS (b : Nat → Int32) (n : Nat) (I : Nat → Nat → Int32) (k : Nat) : Prop := qTp I n ∧ (∀ j, tb I n j = b j) ∧ I 3 1 = nI k ∧ k ≤ n
abbrev hSx (b : Nat → Int32) (n : Nat) (I : Nat → Nat → Int32) : Prop := ∃ k, hS b n I k
abbrev hAt (j k : Nat) : Prop := j = 3 ∧ k = 1
/-- the reader and the draft -/
abbrev hFc (j k : Nat) : Prop := (j = 3 ∧ k = 1) ∨ (j = 4 ∧ 1 ≤ k) ∨ (5 ≤ j ∧ j < 20)
def hO (P : Nat → Nat → Prop) (b : Nat → Int32) (n : Nat) (I : Nat → Nat → Int32) (k : Nat) (J : Nat → Nat → Int32) : Prop := qFr P I J ∧ hS b n J k
def hNx (b : Nat → Int32) (n : Nat) (I J : Nat → Nat → Int32) : Prop := ∃ k, hS b n I k ∧ hO hAt b n I (nx b n k) J
def hVl (b : Nat → Int32) (n : Nat) (I : Nat → Nat → Int32) : Int32 := b (nx b n (I 3 1).toNatClampNeg)
def hPy (b : Nat → Int32) (n : Nat) (I : Nat → Nat → Int32) (x : Int32) (J : Nat → Nat → Int32) : Prop := ∃ k, hS b n I k ∧ b (nx b n k) = x ∧ hO hAt b n I (nx b n k + 1) J
def hPn (b : Nat → Int32) (n : Nat) (I : Nat → Nat → Int32) (x : Int32) (J : Nat → Nat → Int32) : Prop := ∃ k, hS b n I k ∧ ¬ b (nx b n k) = x ∧ hO hAt b n I (nx b n k) J
def hNy (b : Nat → Int32) (n : Nat) (I : Nat → Nat → Int32) (lo hi v : Int32) (J : Nat → Nat → Int32) : Prop := ∃ k k', hS b n I k ∧ gNum b n 2 lo hi k = (k', some v) ∧ hO hAt b n I k' J
def hNn (b : Nat → Int32) (n : Nat) (I : Nat → Nat → Int32) (lo hi : Int32) (J : Nat → Nat → Int32) : Prop := ∃ k k', hS b n I k ∧ gNum b n 2 lo hi k = (k', none) ∧ hO hAt b n I k' J
/-- the row o is being told -/
def hIp (b : Nat → Int32) (n r t j : Nat) (I : Nat → Nat → Int32) (o : Nat) : Prop := (∃ k, hS b n I k) ∧ I 4 0 = nI r ∧ (j = 2 → I 4 3 = nI (t + 1)) ∧ ∀ c, c < sLen j → I o c = hD j c
abbrev hFo (o j k : Nat) : Prop := (j = 3 ∧ k = 1) ∨ j = o
def hIy (b : Nat → Int32) (n r t j : Nat) (I : Nat → Nat → Int32) (o : Nat) (J : Nat → Nat → Int32) : Prop := ∃ k k' row, hS b n I k ∧ gIt b n j r t (sLen j + 1) 0 (hD j) k = (k', some row) ∧ hO (hFo o) b n I k' J ∧ ∀ c, c < sLen j → J o c = row c
def hIn (b : Nat → Int32) (n r t j : Nat) (I : Nat → Nat → Int32) (o : Nat) (J : Nat → Nat → Int32) : Prop := ∃ k k', hS b n I k ∧ gIt b n j r t (sLen j + 1) 0 (hD j) k = (k', none) ∧ hO (hFo o) b n I k' J
abbrev hCn (h : qHs) (j : Nat) : Nat := if j = 0 then h.1.1 else if j = 1 then h.1.2.1 else h.1.2.2
abbrev hRw (h : qHs) (j : Nat) : Nat → Nat → Int32 := if j = 0 then h.2.1 else if j = 1 then h.2.2.1 else h.2.2.2
def hBs (j : Nat) : Nat := [6, 12, 16].getD j 0
def hMx (j : Nat) : Nat := [5, 3, 4].getD j 0
/-- the draft holds h -/
def hE (I : Nat → Nat → Int32) (h : qHs) : Prop := (∀ j, j < 3 → I 4 (1 + j) = nI (hCn h j)) ∧ ∀ j, j < 3 → ∀ s, s < hMx j → ∀ c, c < sLen j → I (hBs j + s) c = hRw h j s c
section L36zv
variable {d : Nat} {K : qK} {I J : Nat → Nat → Int32} {L : Nat → Nat → Int64} {R : Nat → Nat → Option Nat} {sz : Nat} {Q : Option Value → qMem → Prop} {b : Nat → Int32} {n k j : Nat}
theorem hS.n160 (S : hS b n I k) : n ≤ 160 := S.1.2
theorem hS.tb (S : hS b n I k) : qTb b n := qTp_b S.1 S.2.1
theorem hS.uq {k' : Nat} (S : hS b n I k) (h : hS b n I k') : k' = k := by
  have h1 : n ≤ 160 := S.1.2
  have h2 := S.2.2.2
  have h3 := h.2.2.2
  exact nI_h (by omega) (by omega) (by rw [← S.2.2.1, ← h.2.2.1])
theorem hS_at {k' : Nat} (S : hS b n I k) (hk : k' ≤ n) : hO hAt b n I k' (va_up I 3 (upd (I 3) 1 (nI k'))) := by
  obtain ⟨h1, h2, h3, h4⟩ := S
  obtain ⟨t1, t2⟩ := qTp_up (o := 3) (f := upd (I 3) 1 (nI k')) (by decide) (by decide) h1 h2
  exact ⟨qFr.up1 ⟨rfl, rfl⟩, t1, t2, up_at, hk⟩
theorem hVl_at (S : hS b n I k) : hVl b n I = b (nx b n k) := by
  have h1 : n ≤ 160 := S.1.2
  have h2 := S.2.2.2
  unfold hVl
  rw [S.2.2.1, nI_c (by omega)]
theorem hO.st {P : Nat → Nat → Prop} (h : hO P b n I k J) : hS b n J k := h.2
theorem hO.tr {P : Nat → Nat → Prop} {k2 : Nat} {M : Nat → Nat → Int32} (h : hO P b n I k J) (g : hO P b n J k2 M) : hO P b n I k2 M := ⟨h.1.trans g.1, g.2⟩
theorem hO.mo {P P' : Nat → Nat → Prop} (h : hO P b n I k J) (q : ∀ j k, P j k → P' j k) : hO P' b n I k J := ⟨h.1.mono q, h.2⟩
theorem hS.refl {P : Nat → Nat → Prop} (S : hS b n I k) : hO P b n I k I := ⟨qFr.refl, S⟩
theorem hS_up {o : Nat} {f : Nat → Int32} (ho : 4 ≤ o) (S : hS b n I k) : hS b n (va_up I o f) k := by
  obtain ⟨h1, h2, h3, h4⟩ := S
  obtain ⟨t1, t2⟩ := qTp_up (o := o) (f := f) (by omega) (by omega) h1 h2
  exact ⟨t1, t2, by rw [vu_n (by omega)]; exact h3, h4⟩
theorem hS.inc (S : hS b n I k) (hk : k < n) (e : J = va_up I 3 (upd (I 3) 1 ((I 3 1) + 1))) : hO hAt b n I (k + 1) J := by
  have := hS_at (k' := k + 1) S (by omega)
  rw [e, S.2.2.1, nI_1]; exact this
theorem hNx.at (S : hS b n I k) (h : hNx b n I J) : hO hAt b n I (nx b n k) J := by
  obtain ⟨k0, h1, h2⟩ := h
  obtain rfl := S.uq h1
  exact h2
theorem hPy.at {x : Int32} (S : hS b n I k) (h : hPy b n I x J) : b (nx b n k) = x ∧ hO hAt b n I (nx b n k + 1) J := by
  obtain ⟨k0, h1, h2⟩ := h
  obtain rfl := S.uq h1
  exact h2
theorem hPn.at {x : Int32} (S : hS b n I k) (h : hPn b n I x J) : ¬ b (nx b n k) = x ∧ hO hAt b n I (nx b n k) J := by
  obtain ⟨k0, h1, h2⟩ := h
  obtain rfl := S.uq h1
  exact h2
theorem hNy.at {lo hi v : Int32} (S : hS b n I k) (h : hNy b n I lo hi v J) : ∃ k', gNum b n 2 lo hi k = (k', some v) ∧ hO hAt b n I k' J := by
  obtain ⟨k0, k', h1, h2⟩ := h
  obtain rfl := S.uq h1
  exact ⟨k', h2⟩
theorem hNn.at {lo hi : Int32} (S : hS b n I k) (h : hNn b n I lo hi J) : ∃ k', gNum b n 2 lo hi k = (k', none) ∧ hO hAt b n I k' J := by
  obtain ⟨k0, k', h1, h2⟩ := h
  obtain rfl := S.uq h1
  exact ⟨k', h2⟩
theorem hIy.at {r t o : Nat} (S : hS b n I k) (h : hIy b n r t j I o J) : ∃ k' row, gIt b n j r t (sLen j + 1) 0 (hD j) k = (k', some row) ∧ hO (hFo o) b n I k' J ∧ ∀ c, c < sLen j → J o c = row c := by
  obtain ⟨k0, k', row, h1, h2⟩ := h
  obtain rfl := S.uq h1
  exact ⟨k', row, h2⟩
theorem hIn.at {r t o : Nat} (S : hS b n I k) (h : hIn b n r t j I o J) : ∃ k', gIt b n j r t (sLen j + 1) 0 (hD j) k = (k', none) ∧ hO (hFo o) b n I k' J := by
  obtain ⟨k0, k', h1, h2⟩ := h
  obtain rfl := S.uq h1
  exact ⟨k', h2⟩
theorem h7001 (hK : qLay K sz) (hR : qRef R) (h : hSx b n I) (hq : ∀ J, hNx b n I J → Q (some (.int (hVl b n I))) (K, J, L, R, sz)) : X (d + 1) 0 0 7001 0 0 0 (qent (qml 7001) [.ref 3]) [] (K, I, L, R, sz) Q := by
  obtain ⟨k, S⟩ := h
  have h1 := S.1
  have h2 := S.2.1
  have h3 := S.2.2.1
  have h4 := S.2.2.2
  refine v7001_3 hK hR ⟨n, k, h1, h3, h4⟩ (fun J hJ => ?_)
  rw [nxV_at h1 h2 h3 h4, ← hVl_at S]
  refine hq J ⟨k, S, ?_⟩
  unfold nxR at hJ
  rw [nxK_at h1 h2 h3 h4] at hJ
  rw [hJ]
  exact hS_at S (nx_le S.tb h4)
theorem h7002 {x : Int32} (hK : qLay K sz) (hR : qRef R) (h : hSx b n I ∧ ¬ x = (-1 : Int32)) (h1 : ∀ J, hPy b n I x J → Q (some (.int 1)) (K, J, L, R, sz)) (h0 : ∀ J, hPn b n I x J → Q (some (.int 0)) (K, J, L, R, sz)) : X (d + 2) 0 0 7002 0 0 0 (qent (qml 7002) [.ref 3, .int x]) [] (K, I, L, R, sz) Q := by
  obtain ⟨⟨k, S⟩, hx⟩ := h
  refine p7002_3 hK hR S.1 S.2.1 S.2.2.1 S.2.2.2 (fun e => h1 _ ⟨k, S, e, hS_at S ?_⟩) (fun e => h0 _ ⟨k, S, e, hS_at S (nx_le S.tb S.2.2.2)⟩)
  exact S.tb.lt (by rw [e]; exact hx)
theorem h7004 {lo hi : Int32} (hK : qLay K sz) (hR : qRef R) (h : hSx b n I) (h1 : ∀ J v, hNy b n I lo hi v J → Q (some (.int v)) (K, J, L, R, sz)) (h0 : ∀ J, hNn b n I lo hi J → Q (some (.int (-1))) (K, J, L, R, sz)) : X (d + 2) 0 0 7004 0 0 0 (qent (qml 7004) [.ref 3, .int 2, .int lo, .int hi]) [] (K, I, L, R, sz) Q := by
  obtain ⟨k, S⟩ := h
  have w := gNum_W S.tb 2 lo hi k S.2.2.2
  exact n7004_3 (m := 2) hK hR (by decide) S.1 S.2.1 S.2.2.1 S.2.2.2 (fun k' v e => h1 _ _ ⟨k, k', S, e, hS_at S (w.1 _ _ e).2.1⟩) (fun k' e => h0 _ ⟨k, k', S, e, hS_at S (w.2 _ e).2⟩)
theorem s15003w {a : Int32} (hj : j < 3) (h : hTw a) (hq : Q (some (.int (sFind j a))) (K, I, L, R, sz)) : X (d + 3) 0 0 15003 0 0 0 (qent (qml 15003) [.ref (1000000 + j), .int a]) [] (K, I, L, R, sz) Q := by
  obtain ⟨u, hu, rfl⟩ := h
  exact s15003 hj hu hq
theorem i2c_b : ∀ u : Fin 256, ((nI u.val).toUInt32 % 65536).toInt32 = nI u.val := by decide +kernel
end L36zv
