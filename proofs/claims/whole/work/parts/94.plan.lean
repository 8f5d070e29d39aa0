/-! plans: what the class does, the reference does with other hands -/
def pm (g : qPg) (q : Nat → Nat) : Prop := (∀ s, s < gS g → q s < gS g) ∧ (∀ s t, s < gS g → t < gS g → q s = q t → s = t) ∧ (∀ s, s < gS g → gA g (q s) = gA g s)
def sw (x y s : Nat) : Nat := if s = x then y else if s = y then x else s
theorem sw_sw {x y s : Nat} : sw x y (sw x y s) = s := by
  unfold sw
  by_cases h1 : s = x
  · subst h1
    by_cases h2 : y = s
    · subst h2; simp
    · simp [h2]
  · by_cases h2 : s = y
    · subst h2; simp [h1]
    · simp [h1, h2]
def F3 (a b c : Bool) (s : Nat) : Bool := if s = 0 then a else if s = 1 then b else c
def swOk (S : Nat) (A H : Nat → Bool) (x y : Nat) : Bool := allB (fun s => !decide (s < S) || (decide (sw x y s < S) && (A (sw x y s) == H s) && (decide (sw x y s = s) || ((A s || H s) && (A (sw x y s) || H (sw x y s)))))) 3
theorem sw_d : ∀ S : Fin 4, ∀ a0 a1 a2 b0 b1 b2 : Bool, cb (F3 a0 a1 a2) S.val = cb (F3 b0 b1 b2) S.val → (List.range 9).any (fun c => swOk S.val (F3 a0 a1 a2) (F3 b0 b1 b2) (c / 3) (c % 3)) = true := by decide +kernel
theorem F3_e (A : Nat → Bool) {s : Nat} (h : s < 3) : F3 (A 0) (A 1) (A 2) s = A s := by
  have : s = 0 ∨ s = 1 ∨ s = 2 := by omega
  rcases this with rfl | rfl | rfl <;> rfl
theorem tau {S : Nat} (hS : S ≤ 3) {A H : Nat → Bool} (hc : cb A S = cb H S) : ∃ x y, ∀ s, s < S → sw x y s < S ∧ A (sw x y s) = H s ∧ (sw x y s = s ∨ ((A s = true ∨ H s = true) ∧ (A (sw x y s) = true ∨ H (sw x y s) = true))) := by
  have e1 := cb_cong (A := F3 (A 0) (A 1) (A 2)) (B := A) S (fun s hs => F3_e A (by omega))
  have e2 := cb_cong (A := F3 (H 0) (H 1) (H 2)) (B := H) S (fun s hs => F3_e H (by omega))
  have h := sw_d ⟨S, by omega⟩ (A 0) (A 1) (A 2) (H 0) (H 1) (H 2) (by rw [e1, e2]; exact hc)
  rw [List.any_eq_true] at h
  obtain ⟨c, -, hc2⟩ := h
  refine ⟨c / 3, c % 3, fun s hs => ?_⟩
  have h3 := (allB_iff _).mp hc2 s (by omega)
  rw [decide_eq_true hs] at h3
  simp only [Bool.not_true, Bool.false_or, Bool.and_eq_true, Bool.or_eq_true, decide_eq_true_eq, beq_iff_eq] at h3
  obtain ⟨⟨g1, g2⟩, g3⟩ := h3
  have g1' : sw (c / 3) (c % 3) s < S := g1
  rw [F3_e A (by omega), F3_e H (by omega)] at g2
  rw [F3_e A (by omega), F3_e H (by omega), F3_e A (by omega), F3_e H (by omega)] at g3
  exact ⟨g1, g2, g3⟩
theorem cb_pm {S : Nat} (hS : S ≤ 3) {q : Nat → Nat} (h1 : ∀ s, s < S → q s < S) (h2 : ∀ s t, s < S → t < S → q s = q t → s = t) (e : Nat → Bool) : cb (fun s => e (q s)) S = cb e S := by
  have c1 : ∀ e, cb e 1 = (if e 0 then 1 else 0) := fun e => by rw [cb_s]; exact Nat.zero_add _
  have c2 : ∀ e, cb e 2 = (if e 0 then 1 else 0) + (if e 1 then 1 else 0) := fun e => by rw [cb_s, c1]
  have c3 : ∀ e, cb e 3 = (if e 0 then 1 else 0) + (if e 1 then 1 else 0) + (if e 2 then 1 else 0) := fun e => by rw [cb_s, c2]
  have : S = 0 ∨ S = 1 ∨ S = 2 ∨ S = 3 := by omega
  rcases this with rfl | rfl | rfl | rfl
  · rfl
  · have a := h1 0 (by omega)
    rw [c1, c1, show q 0 = 0 by omega]
  · have a := h1 0 (by omega)
    have b := h1 1 (by omega)
    have n := h2 0 1 (by omega) (by omega)
    have : (q 0 = 0 ∧ q 1 = 1) ∨ (q 0 = 1 ∧ q 1 = 0) := by omega
    rcases this with ⟨u, v⟩ | ⟨u, v⟩ <;> rw [c2, c2, u, v] <;> omega
  · have a := h1 0 (by omega)
    have b := h1 1 (by omega)
    have c := h1 2 (by omega)
    have n := h2 0 1 (by omega) (by omega)
    have n' := h2 0 2 (by omega) (by omega)
    have n'' := h2 1 2 (by omega) (by omega)
    have : (q 0 = 0 ∧ q 1 = 1 ∧ q 2 = 2) ∨ (q 0 = 0 ∧ q 1 = 2 ∧ q 2 = 1) ∨ (q 0 = 1 ∧ q 1 = 0 ∧ q 2 = 2) ∨ (q 0 = 1 ∧ q 1 = 2 ∧ q 2 = 0) ∨ (q 0 = 2 ∧ q 1 = 0 ∧ q 2 = 1) ∨ (q 0 = 2 ∧ q 1 = 1 ∧ q 2 = 0) := by omega
    rcases this with ⟨u, v, w⟩ | ⟨u, v, w⟩ | ⟨u, v, w⟩ | ⟨u, v, w⟩ | ⟨u, v, w⟩ | ⟨u, v, w⟩ <;> rw [c3, c3, u, v, w] <;> omega
/-- walking the hands, one by one -/
theorem walks {g : qPg} {d h h' H : Nat → Bool} {r t : Nat} {f' : Nat → Nat} {T k : Nat} {q : Nat → Nat} (hq1 : ∀ s, s < gS g → q s < gS g) (hq2 : ∀ s t, s < gS g → t < gS g → q s = q t → s = t) (ht : gTr g t < gR g) (hH : ∀ s, H s = true → h s = true) (hh : ∀ s, s < gS g → h' (q s) = h s) (hr : rW g d h' r f' T k) : ∀ n, n ≤ gS g → ∃ f'', rW g d h' r f'' (T + sm (fun s => if H s then ds (gTr g t) (f' (q s)) else 0) n) k ∧ ∀ s, s < gS g → f'' (q s) = if s < n ∧ H s = true then gTr g t else f' (q s) := by
  intro n
  induction n with
  | zero => intro _; exact ⟨f', hr, fun s hs => by rw [if_neg (by omega)]⟩
  | succ n ih =>
    intro hn
    obtain ⟨f2, h1, h2⟩ := ih (by omega)
    have en := h2 n (by omega)
    rw [if_neg (by omega)] at en
    rw [sm]
    cases hHn : H n
    · refine ⟨f2, by rw [if_neg Bool.false_ne_true]; exact h1, fun s hs => ?_⟩
      rw [h2 s hs]
      by_cases e : s = n
      · subst e; rw [if_neg (by omega), if_neg (by rw [hHn]; exact fun q => Bool.false_ne_true q.2)]
      · by_cases c : s < n ∧ H s = true
        · rw [if_pos c, if_pos ⟨by omega, c.2⟩]
        · rw [if_neg c, if_neg (fun q => c ⟨by omega, q.2⟩)]
    · rw [if_pos rfl]
      by_cases he : f' (q n) = gTr g t
      · refine ⟨f2, by rw [he, ds_0]; exact h1, fun s hs => ?_⟩
        rw [h2 s hs]
        by_cases e : s = n
        · subst e; rw [if_neg (by omega), if_pos ⟨by omega, hHn⟩]; exact he
        · by_cases c : s < n ∧ H s = true
          · rw [if_pos c, if_pos ⟨by omega, c.2⟩]
          · rw [if_neg c, if_neg (fun q => c ⟨by omega, q.2⟩)]
      · have hst : rE g d h' r f2 d h' r (va_up f2 (q n) (gTr g t)) (ds (gTr g t) (f2 (q n))) 0 := Or.inr (Or.inl ⟨q n, gTr g t, hq1 n (by omega), by rw [hh n (by omega)]; exact hH n hHn, ht, by rw [en]; exact fun e => he e.symm, rfl, rfl, rfl, rfl, rfl, rfl⟩)
        have h3 := rW_s h1 hst
        rw [en, Nat.add_assoc] at h3
        refine ⟨_, h3, fun s hs => ?_⟩
        by_cases e : s = n
        · subst e; rw [vu_s, if_pos ⟨by omega, hHn⟩]
        · rw [vu_n (fun q => e (hq2 s n hs (by omega) q)), h2 s hs]
          by_cases c : s < n ∧ H s = true
          · rw [if_pos c, if_pos ⟨by omega, c.2⟩]
          · rw [if_neg c, if_neg (fun q => c ⟨by omega, q.2⟩)]
theorem c_to_r {g : qPg} (hS : gS g ≤ 3) (hT : ∀ t, t < gN g → gTr g t < gR g) : ∀ n d h r f T k, cP g n d h r f T k → (∀ s, h s = true → s < gS g ∧ gA g s = true) ∧ ∃ q h' f', rW g d h' r f' T k ∧ pm g q ∧ ∀ s, s < gS g → h' (q s) = h s ∧ f' (q s) = f s := by
  intro n
  induction n with
  | zero =>
    intro d h r f T k hp
    have hp' := hp
    obtain ⟨h1, h2, h3, h4, h5, h6⟩ := hp'
    exact ⟨fun s hs => absurd (show (fun _ => false) s = true by rw [← h2]; exact hs) Bool.false_ne_true, fun s => s, h, f, ⟨0, hp⟩, ⟨fun s hs => hs, fun s t _ _ e => e, fun s _ => rfl⟩, fun s _ => ⟨rfl, rfl⟩⟩
  | succ n ih =>
    intro d h r f T k hp
    obtain ⟨d1, h1, r1, f1, T1, k1, w, b, hp1, he, rfl, rfl⟩ := hp
    obtain ⟨hal, q, h2, f2, hr, hpm, hrel⟩ := ih d1 h1 r1 f1 T1 k1 hp1
    obtain ⟨p1, p2, p3⟩ := hpm
    rcases he with ⟨s, hs, ha, hs1, rfl, rfl, rfl, rfl, rfl, rfl⟩ | ⟨t, H, ht, hd, hop, hH, hcn, rfl, rfl, rfl, rfl, rfl, rfl⟩
    · refine ⟨fun j hj => ?_, q, va_up h2 (q s) true, f2, ?_, ⟨p1, p2, p3⟩, fun j hj => ?_⟩
      · by_cases e : j = s
        · rw [e]; exact ⟨hs, ha⟩
        · rw [vu_n e] at hj; exact hal j hj
      · have := rW_s hr (Or.inl ⟨q s, p1 s hs, by rw [p3 s hs]; exact ha, rfl, rfl, rfl, rfl, rfl, rfl⟩)
        rw [(hrel s hs).2] at this
        exact this
      · refine ⟨?_, (hrel j hj).2⟩
        by_cases e : j = s
        · subst e; rw [vu_s, vu_s]
        · rw [vu_n e, vu_n (fun c => e (p2 j s hj hs c))]; exact (hrel j hj).1
    · obtain ⟨f3, hr3, hf3⟩ := walks p1 p2 (hT t ht) hH (fun s hs => (hrel s hs).1) hr (gS g) (Nat.le_refl _)
      have hf3' : ∀ s, s < gS g → f3 (q s) = if H s then gTr g t else f1 s := fun s hs => by
        rw [hf3 s hs, (hrel s hs).2]
        by_cases c : H s = true
        · rw [if_pos ⟨hs, c⟩, if_pos c]
        · rw [if_neg (fun e => c e.2), if_neg c]
      have hwk : sm (fun s => if H s then ds (gTr g t) (f2 (q s)) else 0) (gS g) = wk g H t f1 (gS g) := sm_cong _ (fun s hs => by
        show (if H s = true then ds (gTr g t) (f2 (q s)) else 0) = (if H s = true then ds (gTr g t) (f1 s) else 0)
        rw [(hrel s hs).2])
      rw [hwk] at hr3
      obtain ⟨el, hel⟩ : ∃ el : Nat → Bool, el = fun s => h2 s && decide (f3 s = gTr g t) := ⟨_, rfl⟩
      have helq : ∀ s, s < gS g → el (q s) = (h1 s && decide ((if H s then gTr g t else f1 s) = gTr g t)) := fun s hs => by
        rw [hel]; show (h2 (q s) && decide (f3 (q s) = gTr g t)) = _
        rw [(hrel s hs).1, hf3' s hs]
      have hge : gTh g t ≤ cb el (gS g) := by
        rw [← cb_pm hS p1 p2 el, ← hcn]
        refine cb_mono _ (fun s hs c => ?_)
        rw [helq s hs, hH s c, c, if_pos rfl, decide_eq_true rfl]; rfl
      have hcE : cb (lowS el (gTh g t)) (gS g) = gTh g t := by
        rw [lowS_cb]; split <;> omega
      have hst : rE g d1 h2 r f3 (va_up d1 t true) (if gOc g then fun s => h2 s && !lowS el (gTh g t) s else h2) r f3 (gTm g t) 0 := Or.inr (Or.inr ⟨t, ht, hd, hop, by rw [← hel]; exact hcE, rfl, by rw [hel], rfl, rfl, rfl, rfl⟩)
      have hr4 := rW_s hr3 hst
      rw [Nat.add_assoc, Nat.add_comm (wk g H t f1 (gS g)) (gTm g t)] at hr4
      cases hoc : gOc g
      · rw [hoc, if_neg Bool.false_ne_true] at hr4
        rw [if_neg Bool.false_ne_true]
        exact ⟨hal, q, h2, f3, hr4, ⟨p1, p2, p3⟩, fun s hs => ⟨(hrel s hs).1, hf3' s hs⟩⟩
      · rw [hoc, if_pos rfl] at hr4
        rw [if_pos rfl]
        have hcA : cb (fun s => lowS el (gTh g t) (q s)) (gS g) = cb H (gS g) := by rw [cb_pm hS p1 p2 (lowS el (gTh g t)), hcE, hcn]
        obtain ⟨x, y, htau⟩ := tau hS hcA
        have hA : ∀ s, s < gS g → lowS el (gTh g t) (q s) = true → h1 s = true ∧ (if H s then gTr g t else f1 s) = gTr g t := fun s hs c => by
          have : el (q s) = true := by unfold lowS at c; rw [Bool.and_eq_true] at c; exact c.1
          rw [helq s hs, Bool.and_eq_true] at this
          exact ⟨this.1, of_decide_eq_true this.2⟩
        have hZ : ∀ s, s < gS g → (lowS el (gTh g t) (q s) = true ∨ H s = true) → h1 s = true ∧ (if H s then gTr g t else f1 s) = gTr g t := fun s hs c => by
          rcases c with c | c
          · exact hA s hs c
          · exact ⟨hH s c, by rw [if_pos c]⟩
        refine ⟨fun s hs => ?_, fun s => q (sw x y s), _, f3, hr4, ⟨fun s hs => p1 _ (htau s hs).1, fun s t hs ht e => ?_, fun s hs => ?_⟩, fun s hs => ⟨?_, ?_⟩⟩
        · have hs' : (h1 s && !H s) = true := hs
          rw [Bool.and_eq_true] at hs'
          exact hal s hs'.1
        · have := p2 _ _ (htau s hs).1 (htau t ht).1 e
          rw [← @sw_sw x y s, this, sw_sw]
        · rw [p3 _ (htau s hs).1]
          rcases (htau s hs).2.2 with c | ⟨c1, c2⟩
          · rw [c]
          · rw [(hal s (hZ s hs c1).1).2, (hal _ (hZ _ (htau s hs).1 c2).1).2]
        · show (h2 (q (sw x y s)) && !lowS el (gTh g t) (q (sw x y s))) = (h1 s && !H s)
          rw [(hrel _ (htau s hs).1).1, (htau s hs).2.1]
          rcases (htau s hs).2.2 with c | ⟨c1, c2⟩
          · rw [c]
          · rw [(hZ s hs c1).1, (hZ _ (htau s hs).1 c2).1]
        · show f3 (q (sw x y s)) = if H s then gTr g t else f1 s
          rw [hf3' _ (htau s hs).1]
          rcases (htau s hs).2.2 with c | ⟨c1, c2⟩
          · rw [c]
          · rw [(hZ s hs c1).2, (hZ _ (htau s hs).1 c2).2]
theorem c_r {g : qPg} (hS : gS g ≤ 3) (hT : ∀ t, t < gN g → gTr g t < gR g) {d h : Nat → Bool} {r : Nat} {f : Nat → Nat} {T k : Nat} (hc : cW g d h r f T k) : ∃ h' f', rW g d h' r f' T k := by
  obtain ⟨n, hc⟩ := hc
  obtain ⟨-, q, h', f', hr, -⟩ := c_to_r hS hT n d h r f T k hc
  exact ⟨h', f', hr⟩
