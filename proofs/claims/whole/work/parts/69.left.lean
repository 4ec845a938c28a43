/-! what is left in the heap drawn now -/
def plc (f : Nat → Nat) (r : Nat) : Nat → Nat
  | 0 => 0
  | h + 1 => if r < sm f h then plc f r h else h
theorem plc_ok {f : Nat → Nat} {r : Nat} : ∀ {h : Nat}, r < sm f h → plc f r h < h ∧ sm f (plc f r h) ≤ r ∧ r < sm f (plc f r h + 1)
  | 0, h => absurd h (Nat.not_lt_zero r)
  | k + 1, h => by
    rw [plc]
    by_cases hc : r < sm f k
    · rw [if_pos hc]
      obtain ⟨h1, h2, h3⟩ := plc_ok hc
      exact ⟨by omega, h2, h3⟩
    · rw [if_neg hc]
      exact ⟨by omega, by omega, h⟩
theorem plc_un {f : Nat → Nat} {r p q : Nat} (h1 : sm f p ≤ r) (h2 : r < sm f (p + 1)) (h3 : sm f q ≤ r) (h4 : r < sm f (q + 1)) : p = q := by
  have a1 : ¬ p < q := fun h => by have := sm_le (f := f) (show p + 1 ≤ q from h); omega
  have a2 : ¬ q < p := fun h => by have := sm_le (f := f) (show q + 1 ≤ p from h); omega
  omega
def SS (D : dd) (j : Nat) : Nat := sm (fun i => dA D (dO D i) + dB D (dO D i)) j
def EE (D : dd) (j : Nat) : Nat := sm (fun i => dA D (dO D i)) j
theorem SS_s (D : dd) (j : Nat) : SS D (j + 1) = SS D j + (dA D (dO D j) + dB D (dO D j)) := rfl
theorem EE_s (D : dd) (j : Nat) : EE D (j + 1) = EE D j + dA D (dO D j) := rfl
theorem EE_le (D : dd) (j : Nat) : EE D j ≤ SS D j := sm_AB _ _ j
theorem SS_le {D : dd} (w : WF D) {j : Nat} (h : j ≤ dh D) : SS D j ≤ 24 := Nat.le_trans (sm_le h) w.2.2.2.2.1
def pp (D : dd) : Nat := plc (fun i => dA D (dO D i) + dB D (dO D i)) (dr D) (dh D)
def LA (D : dd) : Nat := EE D (pp D + 1) - sm (dS D) (dr D)
def LBB (D : dd) : Nat := (SS D (pp D + 1) - EE D (pp D + 1)) - (dr D - sm (dS D) (dr D))
theorem PH_in (A B : Nat → Nat) : ∀ (h : Nat) {p t : Nat}, p < h → sm (fun i => A i + B i) p < t → t ≤ sm (fun i => A i + B i) (p + 1) → ∀ a, PH A B h t a = decide (sm A p ≤ a ∧ a ≤ sm A p + A p ∧ a + sm (fun i => A i + B i) p ≤ t + sm A p ∧ t + sm A p ≤ a + sm (fun i => A i + B i) p + B p)
  | 0, p, t, h, _, _, _ => absurd h (Nat.not_lt_zero p)
  | h + 1, p, t, hp, h1, h2, a => by
    rw [PH]
    by_cases e : p = h
    · subst e
      rw [if_neg (by omega)]
    · have := sm_le (f := fun i => A i + B i) (show p + 1 ≤ h from by omega)
      rw [if_pos (by omega), PH_in A B h (by omega) h1 h2 a]
theorem PH_at (A B : Nat → Nat) : ∀ (h : Nat) {p : Nat}, p ≤ h → ∀ a, PH A B h (sm (fun i => A i + B i) p) a = decide (a = sm A p)
  | 0, p, hp, a => by
    have e : p = 0 := by omega
    subst e
    exact PH_end A B 0 a
  | h + 1, p, hp, a => by
    by_cases e : p = h + 1
    · subst e
      exact PH_end A B (h + 1) a
    · rw [PH, if_pos (sm_le (by omega)), PH_at A B h (by omega) a]
/-- where the reading stands -/
theorem pos_ok {D : dd} (w : WF D) (h : dr D < dn D) : pp D < dh D ∧ SS D (pp D) ≤ dr D ∧ dr D < SS D (pp D + 1) ∧ EE D (pp D) ≤ sm (dS D) (dr D) ∧ sm (dS D) (dr D) ≤ EE D (pp D) + dA D (dO D (pp D)) ∧ sm (dS D) (dr D) + SS D (pp D) ≤ dr D + EE D (pp D) ∧ dr D + EE D (pp D) ≤ sm (dS D) (dr D) + SS D (pp D) + dB D (dO D (pp D)) ∧ sm (dS D) (SS D (pp D)) = EE D (pp D) := by
  obtain ⟨w1, w2, w3, w4, w5, w6, w7, w8, w9, w10⟩ := id w
  obtain ⟨h1, h2, h3⟩ := plc_ok (f := fun i => dA D (dO D i) + dB D (dO D i)) (r := dr D) (h := dh D) h
  have h1 : pp D < dh D := h1
  have h2 : SS D (pp D) ≤ dr D := h2
  have h3 : dr D < SS D (pp D + 1) := h3
  have e0 : sm (dS D) (SS D (pp D)) = EE D (pp D) := by
    have q1 := w8 (SS D (pp D)) h2
    have q2 : DP D (SS D (pp D)) (sm (dS D) (SS D (pp D))) = decide (sm (dS D) (SS D (pp D)) = EE D (pp D)) := PH_at _ _ (dh D) (by omega) _
    rw [q2, decide_eq_true_eq] at q1
    exact q1
  refine ⟨h1, h2, h3, ?_⟩
  by_cases e : dr D = SS D (pp D)
  · rw [e, e0]
    exact ⟨by omega, by omega, by omega, by omega, rfl⟩
  · have q1 := w8 (dr D) (Nat.le_refl _)
    have q2 : DP D (dr D) (sm (dS D) (dr D)) = decide (EE D (pp D) ≤ sm (dS D) (dr D) ∧ sm (dS D) (dr D) ≤ EE D (pp D) + dA D (dO D (pp D)) ∧ sm (dS D) (dr D) + SS D (pp D) ≤ dr D + EE D (pp D) ∧ dr D + EE D (pp D) ≤ sm (dS D) (dr D) + SS D (pp D) + dB D (dO D (pp D))) := PH_in _ _ (dh D) h1 (Nat.lt_of_le_of_ne h2 (fun z => e z.symm)) (Nat.le_of_lt h3) _
    rw [q2, decide_eq_true_eq] at q1
    exact ⟨q1.1, q1.2.1, q1.2.2.1, q1.2.2.2, e0⟩
theorem cn_eq {D : dd} (w : WF D) (h : dr D < dn D) {x : Nat} (hx : x ≤ 1) : cn D x = decide (0 < if x = 0 then LBB D else LA D) := by
  obtain ⟨h1, h2, h3, h4, h5, h6, h7, h8⟩ := pos_ok w h
  have e1 := SS_s D (pp D)
  have e2 := EE_s D (pp D)
  have e3 := EE_le D (pp D)
  unfold cn
  have q2 : DP D (dr D + 1) (sm (dS D) (dr D) + x) = decide (EE D (pp D) ≤ sm (dS D) (dr D) + x ∧ sm (dS D) (dr D) + x ≤ EE D (pp D) + dA D (dO D (pp D)) ∧ sm (dS D) (dr D) + x + SS D (pp D) ≤ dr D + 1 + EE D (pp D) ∧ dr D + 1 + EE D (pp D) ≤ sm (dS D) (dr D) + x + SS D (pp D) + dB D (dO D (pp D))) := PH_in _ _ (dh D) h1 (show SS D (pp D) < dr D + 1 from by omega) (show dr D + 1 ≤ SS D (pp D + 1) from by omega) _
  rw [decide_eq_true h, Bool.true_and, q2, decide_eq_decide]
  unfold LA LBB
  by_cases hx0 : x = 0
  · rw [if_pos hx0]
    omega
  · rw [if_neg hx0]
    omega
theorem LL {D : dd} (w : WF D) (h : dr D < dn D) : LA D + LBB D = SS D (pp D + 1) - dr D ∧ 0 < LA D + LBB D ∧ LA D + LBB D ≤ 24 := by
  obtain ⟨h1, h2, h3, h4, h5, h6, h7, h8⟩ := pos_ok w h
  have e1 := SS_s D (pp D)
  have e2 := EE_s D (pp D)
  have e3 := EE_le D (pp D)
  have e4 := SS_le w (show pp D + 1 ≤ dh D from h1)
  unfold LA LBB
  omega
theorem i_na {a e : Nat} (h : a ≤ e) (he : e ≤ 1000) : -(Int32.ofNat a) + Int32.ofNat e = Int32.ofNat (e - a) := by
  have e1 : (-(Int32.ofNat a)).toInt = -(a : Int) := by rw [i_tneg (by rw [i_ti (by omega)]; omega), i_ti (by omega)]
  rw [← Int32.toInt_inj, i_tadd (by rw [e1, i_ti (by omega)]; omega) (by rw [e1, i_ti (by omega)]; omega), e1, i_ti (by omega), i_ti (by omega)]
  omega
theorem i_nb {a r b : Nat} (hr : r ≤ 1000) (h : a ≤ r) (hb : r - a ≤ b) (hb2 : b ≤ 1000) : (Int32.ofNat a - Int32.ofNat r) + Int32.ofNat b = Int32.ofNat (b - (r - a)) := by
  have e1 : (Int32.ofNat a - Int32.ofNat r).toInt = (a : Int) - r := by rw [i_tsub (by rw [i_ti (by omega), i_ti (by omega)]; omega) (by rw [i_ti (by omega), i_ti (by omega)]; omega), i_ti (by omega), i_ti (by omega)]
  rw [← Int32.toInt_inj, i_tadd (by rw [e1, i_ti (by omega)]; omega) (by rw [e1, i_ti (by omega)]; omega), e1, i_ti (by omega), i_ti (by omega)]
  omega
/-! the class -/
theorem c_heapNow4 {M : am_M} {o : Nat} {D : dd} (w : WF D) (h : DR M o D) : ∀ (m j : Nat), j ≤ dh D → dh D + 1 ≤ m + j → SS D j ≤ dr D → wp (l_X1_heapNow_4 M o m (Int32.ofNat (SS D j)) (Int32.ofNat j)) (fun y => y = if dr D < dn D then Int32.ofNat (dO D (pp D)) else -1) := by
  intro m
  have hH := h.HO w
  have h4 := w.1
  have h5 := w.2.2.2.2.1
  have h6 := w.2.2.2.2.2.1
  induction m with
  | zero => intro j h1 h2; omega
  | succ m ih =>
    intro j hj hm hs
    rw [l_X1_heapNow_4, h.1, i_cl (x := j) (by omega)]
    refine wp_le (by omega) (by omega) (fun e => wp_some ?_) (fun hlt => ?_)
    · have e : j = dh D := by omega
      subst e
      have : SS D (dh D) = dn D := rfl
      rw [if_neg (by omega)]
    obtain ⟨a1, a2, a3, a4⟩ := hH.2 j hlt
    have b1 := SS_le w (show j + 1 ≤ dh D from hlt)
    have b2 := SS_s D j
    rw [a1]
    refine wp_inb (by omega) (by omega) (wp_let ?_)
    rw [i_cl (x := dO D j) (by omega), a3, a4]
    refine wp_inb (by omega) (by omega) (wp_inb (by omega) (by omega) (wp_let ?_))
    rw [i_add, i_add, ← b2, h.2.2.2.2.1]
    refine wp_le (by omega) (by omega) (fun e => wp_let ?_) (fun e => wp_some ?_)
    · rw [i_s]
      exact ih (j + 1) hlt (by omega) e
    · have b3 : SS D (j + 1) ≤ dn D := sm_le (f := fun i => dA D (dO D i) + dB D (dO D i)) hlt
      have hr : dr D < dn D := by omega
      obtain ⟨h1, h2, h3, _⟩ := pos_ok w hr
      rw [if_pos hr, plc_un (f := fun i => dA D (dO D i) + dB D (dO D i)) hs e h2 h3]
theorem c_heapNow {M : am_M} {o : Nat} {D : dd} (w : WF D) (h : DR M o D) : f_X1_heapNow M o = some (if dr D < dn D then Int32.ofNat (dO D (pp D)) else -1) := by
  unfold f_X1_heapNow
  have h4 := w.1
  exact wp_is (c_heapNow4 w h 1000 0 (by omega) (by omega) (Nat.zero_le _))
theorem c_placeOf2 {M : am_M} {o p : Nat} {D : dd} (w : WF D) (h : DR M o D) (hp : p < dh D) : ∀ (m j : Nat), j ≤ p → p + 1 ≤ m + j → wp (l_X1_placeOf_2 M o (Int32.ofNat (dO D p)) m (Int32.ofNat j)) (fun y => y = Int32.ofNat p) := by
  intro m
  have h4 := w.1
  induction m with
  | zero => intro j h1 h2; omega
  | succ m ih =>
    intro j hj hm
    have o1 := w.2.2.1 j (by omega)
    have o2 := w.2.2.1 p hp
    rw [l_X1_placeOf_2, h.1, i_cl (x := j) (by omega), (h.2.2.2.1 j (by omega)).2.2]
    refine wp_le (by omega) (by omega) (fun e => absurd e (by omega)) (fun _ => wp_inb (by omega) (by omega) ?_)
    refine wp_ieq (by omega) (by omega) (fun e => wp_some ?_) (fun e => wp_let ?_)
    · rw [w.2.2.2.1 j p (by omega) hp e]
    · rw [i_s]
      have : j ≠ p := fun z => e (by rw [z])
      exact ih (j + 1) (by omega) (by omega)
theorem c_placeOf {M : am_M} {o p : Nat} {D : dd} (w : WF D) (h : DR M o D) (hp : p < dh D) : f_X1_placeOf M o (Int32.ofNat (dO D p)) = some (Int32.ofNat p) := by
  unfold f_X1_placeOf
  have h4 := w.1
  exact wp_is (c_placeOf2 w h hp 1000 0 (by omega) (by omega))
theorem c_left46 {M : am_M} {o p x : Nat} {D : dd} {z : Int32} (w : WF D) (h : DR M o D) (hp : p < dh D) (hx : x ≤ 1) : ∀ (m j : Nat), j ≤ p + 1 → p + 2 ≤ m + j → wp (l_X1_leftNow_46 M o (Int32.ofNat x) (Int32.ofNat p) m (z + Int32.ofNat (if x = 0 then SS D j - EE D j else EE D j)) (Int32.ofNat j)) (fun y => y = z + Int32.ofNat (if x = 0 then SS D (p + 1) - EE D (p + 1) else EE D (p + 1))) := by
  intro m
  have hH := h.HO w
  have h4 := w.1
  induction m with
  | zero => intro j h1 h2; omega
  | succ m ih =>
    intro j hj hm
    rw [l_X1_leftNow_46]
    refine wp_lt (by omega) (by omega) (fun e => wp_some (by rw [show j = p + 1 from by omega])) (fun e => ?_)
    obtain ⟨a1, a2, a3, a4⟩ := hH.2 j (by omega)
    have b2 := SS_s D j
    have b3 := EE_s D j
    have b4 := EE_le D j
    rw [i_cl (x := j) (by omega), a1, i_cl (x := dO D j) (by omega), a3, a4]
    refine wp_call (Q := fun v => v = Int32.ofNat (if x = 0 then dB D (dO D j) else dA D (dO D j))) ?_ (fun v hv => wp_let (wp_let ?_))
    · refine wp_ieq (y := 0) (by omega) (by omega) (fun e0 => wp_inb (by omega) (by omega) (wp_inb (by omega) (by omega) (wp_some (by rw [if_pos e0])))) (fun e0 => wp_inb (by omega) (by omega) (wp_inb (by omega) (by omega) (wp_some (by rw [if_neg e0]))))
    · rw [hv, Int32.add_assoc, i_add, i_s]
      have := ih (j + 1) (by omega) (by omega)
      by_cases e0 : x = 0
      · rw [if_pos e0] at this ⊢
        rw [if_pos e0] at this ⊢
        rw [if_pos e0]
        rw [show SS D j - EE D j + dB D (dO D j) = SS D (j + 1) - EE D (j + 1) from by omega]
        exact this
      · rw [if_neg e0] at this ⊢
        rw [if_neg e0] at this ⊢
        rw [if_neg e0, ← b3]
        exact this
theorem c_leftNow {M : am_M} {o x : Nat} {D : dd} (w : WF D) (h : DR M o D) (hx : x ≤ 1) : f_X1_leftNow M o (Int32.ofNat x) = some (Int32.ofNat (if dr D < dn D then (if x = 0 then LBB D else LA D) else 0)) := by
  have h4 := w.1
  have h6 := w.2.2.2.2.2.1
  have h5 := w.2.2.2.2.1
  have ha := sm_le1 w.2.2.2.2.2.2.1 (dr D) (Nat.le_refl _)
  unfold f_X1_leftNow
  rw [h.2.2.2.2.1, h.2.2.2.2.2.1]
  refine wp_is (wp_be (c_heapNow w h) ?_)
  by_cases hr : dr D < dn D
  · rw [if_pos hr, if_pos hr]
    obtain ⟨p1, p2, p3, p4, p5, p6, p7, p8⟩ := pos_ok w hr
    have e1 := SS_s D (pp D)
    have e2 := EE_s D (pp D)
    have e3 := EE_le D (pp D)
    have e4 := SS_le w (show pp D + 1 ≤ dh D from p1)
    have o1 := w.2.2.1 (pp D) p1
    have ne : ¬ Int32.ofNat (dO D (pp D)) = -1 := enc_1 (f := dO D (pp D)) (by omega)
    refine wp_call (Q := fun z => z = Int32.ofNat (pp D)) (wp_neg ne (wp_be (c_placeOf w h p1) (wp_some rfl))) (fun z hz => ?_)
    subst hz
    by_cases hx0 : x = 0
    · subst hx0
      refine wp_call (Q := fun z => z = Int32.ofNat (sm (dS D) (dr D)) - Int32.ofNat (dr D)) (wp_pos rfl (wp_some rfl)) (fun z hz => ?_)
      have := c_left46 (x := 0) (z := z) w h p1 (by omega) 1000 0 (by omega) (by omega)
      rw [if_pos rfl, if_pos rfl] at this
      have e0 : z + Int32.ofNat (SS D 0 - EE D 0) = z := Int32.add_zero z
      rw [e0] at this
      refine wp_call this (fun y hy => wp_neg (enc_1 (f := pp D) (by omega)) (wp_some ?_))
      rw [hy, hz, i_nb (by omega) ha (by omega) (by omega), if_pos rfl]
      rfl
    · have hx1 : x = 1 := by omega
      subst hx1
      refine wp_call (Q := fun z => z = -(Int32.ofNat (sm (dS D) (dr D)))) (wp_neg (by decide) (wp_some rfl)) (fun z hz => ?_)
      have := c_left46 (x := 1) (z := z) w h p1 (by omega) 1000 0 (by omega) (by omega)
      rw [if_neg (by decide), if_neg (by decide)] at this
      have e0 : z + Int32.ofNat (EE D 0) = z := Int32.add_zero z
      rw [e0] at this
      refine wp_call this (fun y hy => wp_neg (enc_1 (f := pp D) (by omega)) (wp_some ?_))
      rw [hy, hz, i_na (by omega) (by omega), if_neg (by decide)]
      rfl
  · rw [if_neg hr, if_neg hr]
    refine wp_call (Q := fun z => z = (-1 : Int32)) (wp_pos rfl (wp_some rfl)) (fun z hz => ?_)
    subst hz
    refine wp_call (Q := fun _ => True) (wp_ite (fun _ => wp_some trivial) (fun _ => wp_some trivial)) (fun z _ => ?_)
    refine wp_call (Q := fun _ => True) ?_ (fun y _ => wp_pos rfl (wp_some rfl))
    show wp (l_X1_leftNow_46 M o (Int32.ofNat x) (-1) (999 + 1) z 0) _
    rw [l_X1_leftNow_46]
    exact wp_pos (by decide) (wp_some trivial)
theorem c_take {M : am_M} {o x : Nat} {D : dd} (w : WF D) (h : DR M o D) (hx : x ≤ 1) : wp (f_X1_take M o (Int32.ofNat x)) (fun y => (cn D x = true ∧ y.1 = 1 ∧ DR y.2 o (dRead D x)) ∨ (cn D x = false ∧ y = (0, M))) := by
  obtain ⟨h1, h2, h3, h4', h5, h6, h7, h8, h9, h10⟩ := id h
  have w6 := w.2.2.2.2.2.1
  have w5 := w.2.2.2.2.1
  have hno : ¬ dr D < dn D → cn D x = false := fun hr => by unfold cn; rw [decide_eq_false hr]; rfl
  unfold f_X1_take
  rw [h5]
  refine wp_le (x := 24) (by omega) (by omega) (fun e => wp_some (Or.inr ⟨hno (by omega), rfl⟩)) (fun e24 => ?_)
  refine wp_be (c_leftNow w h hx) ?_
  by_cases hr : dr D < dn D
  · rw [if_pos hr]
    have hL := LL w hr
    have ec := cn_eq w hr hx
    generalize hl : (if x = 0 then LBB D else LA D) = l at ec
    have hl24 : l ≤ 24 := by
      by_cases hx0 : x = 0
      · rw [if_pos hx0] at hl; omega
      · rw [if_neg hx0] at hl; omega
    refine wp_lt (x := 0) (by omega) (by omega) (fun hp => ?_) (fun hp => wp_some (Or.inr ⟨by rw [ec, decide_eq_false (by omega)], rfl⟩))
    have hc : cn D x = true := by rw [ec, decide_eq_true hp]
    refine wp_call (Q := fun z => z = Int32.ofNat x) (wp_ieq (y := 0) (by omega) (by omega) (fun e => wp_some (by rw [e]; rfl)) (fun e => wp_some (by rw [show x = 1 from by omega]; rfl))) (fun z hz => ?_)
    subst hz
    refine wp_inb (by omega) (by omega) (wp_let ?_)
    rw [i_cl (x := dr D) (by omega)]
    have fin : ∀ v : Int32, v = Int32.ofNat x → DR (am_si (am_si (am_si M 208 o 0 (dr D) (Int32.ofNat x)) 1 o 0 7 ((am_si M 208 o 0 (dr D) (Int32.ofNat x)).1 1 o 0 7 + v)) 1 o 0 6 ((am_si (am_si M 208 o 0 (dr D) (Int32.ofNat x)) 1 o 0 7 ((am_si M 208 o 0 (dr D) (Int32.ofNat x)).1 1 o 0 7 + v)).1 1 o 0 6 + 1)) o (dRead D x) := by
      intro v hv
      subst hv
      refine ⟨?_, ?_, ?_, fun i hi => ⟨?_, ?_, ?_⟩, ?_, ?_, fun i hi => ?_, ?_, fun i hi => ⟨?_, ?_, ?_⟩, ?_⟩
      · rw [si_j (by decide), si_j (by decide), si_k (by decide)]; exact h1
      · rw [si_j (by decide), si_j (by decide), si_k (by decide)]; exact h2
      · rw [si_j (by decide), si_j (by decide), si_k (by decide)]; exact h3
      · rw [si_k (by decide), si_k (by decide), si_k (by decide)]; exact (h4' i hi).1
      · rw [si_k (by decide), si_k (by decide), si_k (by decide)]; exact (h4' i hi).2.1
      · rw [si_k (by decide), si_k (by decide), si_k (by decide)]; exact (h4' i hi).2.2
      · rw [am_si_self, si_j (by decide), si_k (by decide), h5, i_s]
        rfl
      · rw [si_j (by decide), am_si_self, si_k (by decide), h6, i_add]
        show _ = Int32.ofNat (sm (up (dS D) (dr D) x) (dr D) + up (dS D) (dr D) x (dr D))
        rw [up_e, sm_up (Nat.le_refl _)]
      · have hi : i < dr D + 1 := hi
        rw [si_k (by decide), si_k (by decide), si_e]
        show _ = Int32.ofNat (up (dS D) (dr D) x i)
        by_cases e : i = dr D
        · rw [if_pos e, e, up_e]
        · rw [if_neg e, up_n e]
          exact h7 i (by omega)
      · rw [si_j (by decide), si_j (by decide), si_k (by decide)]; exact h8
      · rw [si_k (by decide), si_k (by decide), si_k (by decide)]; exact (h9 i hi).1
      · rw [si_k (by decide), si_k (by decide), si_k (by decide)]; exact (h9 i hi).2.1
      · rw [si_k (by decide), si_k (by decide), si_k (by decide)]; exact (h9 i hi).2.2
      · rw [si_j (by decide), si_j (by decide), si_k (by decide)]; exact h10
    exact wp_ieq (y := 0) (by omega) (by omega) (fun e => wp_let (wp_let (wp_some (Or.inl ⟨hc, rfl, fin 0 (by rw [e]; rfl)⟩)))) (fun e => wp_let (wp_let (wp_some (Or.inl ⟨hc, rfl, fin 1 (by rw [show x = 1 from by omega]; rfl)⟩))))
  · rw [if_neg hr]
    exact wp_neg (by decide) (wp_some (Or.inr ⟨hno hr, rfl⟩))
/-! the reference -/
theorem r_heapAt4 {M : am_M} {o : Nat} {D : dd} (w : WF D) (h : RH M o D) : ∀ (m j : Nat), j ≤ dh D → dh D + 1 ≤ m + j → SS D j ≤ dr D → wp (l_X5_heapAt_4 M o m (Int32.ofNat (dr D - SS D j)) (Int32.ofNat j)) (fun y => y = if dr D < dn D then Int32.ofNat (dO D (pp D)) else -1) := by
  intro m
  have h4 := w.1
  have h5 := w.2.2.2.2.1
  have h6 := w.2.2.2.2.2.1
  induction m with
  | zero => intro j h1 h2; omega
  | succ m ih =>
    intro j hj hm hs
    rw [l_X5_heapAt_4, h.1, i_cl (x := j) (by omega)]
    refine wp_le (by omega) (by omega) (fun e => wp_some ?_) (fun hlt => ?_)
    · have e : j = dh D := by omega
      subst e
      have : SS D (dh D) = dn D := rfl
      rw [if_neg (by omega)]
    have o1 := w.2.2.1 j hlt
    obtain ⟨a1, a2, a3⟩ := h.2 (dO D j) o1
    have b1 := SS_le w (show j + 1 ≤ dh D from hlt)
    have b2 := SS_s D j
    rw [(h.2 j hlt).2.2, i_cl (x := dO D j) (by omega), a1, a2]
    refine wp_inb (by omega) (by omega) (wp_inb (by omega) (by omega) (wp_inb (by omega) (by omega) (wp_inb (by omega) (by omega) (wp_let ?_))))
    rw [i_add]
    refine wp_le (by omega) (by omega) (fun e => wp_let (wp_let ?_)) (fun e => wp_inb (by omega) (by omega) (wp_some ?_))
    · rw [i_sub e, i_s, show dr D - SS D j - (dA D (dO D j) + dB D (dO D j)) = dr D - SS D (j + 1) from by omega]
      exact ih (j + 1) hlt (by omega) (by omega)
    · have b3 : SS D (j + 1) ≤ dn D := sm_le (f := fun i => dA D (dO D i) + dB D (dO D i)) hlt
      have hr : dr D < dn D := by omega
      obtain ⟨h1, h2, h3, _⟩ := pos_ok w hr
      rw [if_pos hr, plc_un (f := fun i => dA D (dO D i) + dB D (dO D i)) hs (show dr D < SS D (j + 1) from by omega) h2 h3]
theorem r_heapAt {M : am_M} {o : Nat} {D : dd} (w : WF D) (h : RF M o D) : f_X5_heapAt M o (M.1 5 o 0 16) = some (if dr D < dn D then Int32.ofNat (dO D (pp D)) else -1) := by
  unfold f_X5_heapAt
  have h4 := w.1
  rw [h.2.2.1]
  exact wp_is (r_heapAt4 w h.H 1000 0 (by omega) (by omega) (Nat.zero_le _))
theorem r_startOf4 {M : am_M} {o p : Nat} {D : dd} (w : WF D) (h : RH M o D) (hp : p < dh D) : ∀ (m j : Nat), j ≤ p → p + 1 ≤ m + j → wp (l_X5_startOf_4 M o (Int32.ofNat (dO D p)) m (Int32.ofNat (SS D j)) (Int32.ofNat j)) (fun y => y = Int32.ofNat (SS D p)) := by
  intro m
  have h4 := w.1
  induction m with
  | zero => intro j h1 h2; omega
  | succ m ih =>
    intro j hj hm
    have o1 := w.2.2.1 j (by omega)
    have o2 := w.2.2.1 p hp
    obtain ⟨a1, a2, a3⟩ := h.2 (dO D j) o1
    have b2 := SS_s D j
    rw [l_X5_startOf_4, i_cl (x := j) (by omega), (h.2 j (by omega)).2.2, i_cl (x := dO D j) (by omega), a1, a2]
    refine wp_inb (by omega) (by omega) (wp_ieq (by omega) (by omega) (fun e => wp_some ?_) (fun e => wp_inb (by omega) (by omega) (wp_inb (by omega) (by omega) (wp_inb (by omega) (by omega) (wp_inb (by omega) (by omega) (wp_let (wp_let ?_)))))))
    · rw [w.2.2.2.1 j p (by omega) hp e]
    · rw [i_add, i_add, i_s, ← b2]
      have : j ≠ p := fun z => e (by rw [z])
      exact ih (j + 1) (by omega) (by omega)
theorem r_left18 {M : am_M} {o r p0 x : Nat} {S : Nat → Nat} {a2 : Int32} (hr : r ≤ 24) (hx : x ≤ 1) (h3 : M.1 5 o 0 16 = Int32.ofNat r) (hM : ∀ i, i < r → M.1 617 o 0 i = Int32.ofNat (S i)) (hS : ∀ i, i < r → S i ≤ 1) : ∀ (m j : Nat), p0 ≤ j → j ≤ r → r + 1 ≤ m + j → wp (l_X5_leftNow_18 M o (Int32.ofNat x) a2 m (Int32.ofNat (sm (fun i => if p0 ≤ i then (if S i = x then 1 else 0) else 0) j)) (Int32.ofNat j)) (fun y => y = Int32.ofNat (sm (fun i => if p0 ≤ i then (if S i = x then 1 else 0) else 0) r)) := by
  intro m
  induction m with
  | zero => intro j h1 h2; omega
  | succ m ih =>
    intro j hp hj hm
    rw [l_X5_leftNow_18, h3]
    refine wp_le (by omega) (by omega) (fun e => wp_some (by rw [show j = r from by omega])) (fun hlt => wp_inb (by omega) (by omega) ?_)
    have hs := hS j hlt
    rw [i_cl (x := j) (by omega), hM j hlt]
    refine wp_call (Q := fun z => z = Int32.ofNat (S j)) (wp_ieq (y := 1) (by omega) (by omega) (fun e => wp_some (by rw [e]; rfl)) (fun e => wp_some (by rw [show S j = 0 from by omega]; rfl))) (fun z hz => ?_)
    subst hz
    refine wp_call (Q := fun z => z = Int32.ofNat (if S j = x then 1 else 0)) (wp_ieq (by omega) (by omega) (fun e => wp_some (by rw [if_pos e]; rfl)) (fun e => wp_some (by rw [if_neg e]; rfl))) (fun z hz => wp_let (wp_let ?_))
    rw [hz, i_add, i_s]
    have := ih (j + 1) (by omega) (by omega) (by omega)
    rw [sm, if_pos hp] at this
    exact this
theorem cnt_1 {S : Nat → Nat} {p0 : Nat} (r : Nat) (hS : ∀ i, i < r → S i ≤ 1) : ∀ j, j ≤ r → sm (fun i => if p0 ≤ i then (if S i = 1 then 1 else 0) else 0) j = sm S j - sm S p0 ∨ j < p0
  | 0, _ => by
    by_cases h : 0 < p0
    · exact Or.inr h
    · exact Or.inl (by show 0 = 0 - _; omega)
  | j + 1, hj => by
    have hs := hS j (by omega)
    by_cases h : p0 ≤ j
    · refine Or.inl ?_
      have m1 := sm_le (f := S) h
      rcases cnt_1 (p0 := p0) r hS j (by omega) with ih | ih
      · rw [sm, ih, if_pos h, sm]
        by_cases e : S j = 1
        · rw [if_pos e]; omega
        · rw [if_neg e]; omega
      · omega
    · by_cases e : p0 = j + 1
      · refine Or.inl ?_
        rw [sm_zero (fun a ha => if_neg (by omega)), e]
        omega
      · exact Or.inr (by omega)
theorem cnt_0 {S : Nat → Nat} {p0 : Nat} (r : Nat) (hS : ∀ i, i < r → S i ≤ 1) : ∀ j, j ≤ r → p0 ≤ j → sm (fun i => if p0 ≤ i then (if S i = 0 then 1 else 0) else 0) j + (sm S j - sm S p0) = j - p0
  | 0, _, h => by
    have e : p0 = 0 := by omega
    subst e
    rfl
  | j + 1, hj, h => by
    have hs := hS j (by omega)
    by_cases e : p0 = j + 1
    · rw [sm_zero (fun a ha => if_neg (by omega)), e]
      omega
    · have m1 := sm_le (f := S) (show p0 ≤ j from by omega)
      have ih := cnt_0 (p0 := p0) r hS j (by omega) (by omega)
      rw [sm, if_pos (show p0 ≤ j from by omega), sm]
      by_cases e0 : S j = 0
      · rw [if_pos e0]; omega
      · rw [if_neg e0]; omega
theorem r_leftNow {M : am_M} {o x : Nat} {D : dd} (w : WF D) (h : RF M o D) (hx : x ≤ 1) (hr : dr D < dn D) : f_X5_leftNow M o (Int32.ofNat x) = some (Int32.ofNat (if x = 0 then LBB D else LA D)) := by
  obtain ⟨w1, w2, w3, w4, w5, w6, w7, w8, w9, w10⟩ := id w
  obtain ⟨p1, p2, p3, p4, p5, p6, p7, p8⟩ := pos_ok w hr
  have e1 := SS_s D (pp D)
  have e2 := EE_s D (pp D)
  have e3 := EE_le D (pp D)
  have e4 := SS_le w (show pp D + 1 ≤ dh D from p1)
  have o1 := w3 (pp D) p1
  have c1 := cnt_1 (S := dS D) (p0 := SS D (pp D)) (dr D) w7 (dr D) (Nat.le_refl _)
  have c0 := cnt_0 (S := dS D) (p0 := SS D (pp D)) (dr D) w7 (dr D) (Nat.le_refl _) p2
  rw [p8] at c1 c0
  have z0 : ∀ y, sm (fun i => if SS D (pp D) ≤ i then (if dS D i = y then 1 else 0) else 0) (SS D (pp D)) = 0 := fun y => sm_zero (fun a ha => if_neg (by omega))
  unfold f_X5_leftNow
  refine wp_is (wp_be (r_heapAt w h) ?_)
  rw [if_pos hr]
  unfold f_X5_startOf
  refine wp_call (wp_call (r_startOf4 w h.H p1 1000 0 (by omega) (by omega)) (fun y hy => wp_some hy)) (fun y hy => ?_)
  subst hy
  have ll := r_left18 (M := M) (o := o) (p0 := SS D (pp D)) (x := x) (a2 := Int32.ofNat (dO D (pp D))) (show dr D ≤ 24 from by omega) hx h.2.2.1 h.2.2.2.1 w7 1000 (SS D (pp D)) (Nat.le_refl _) p2 (by omega)
  rw [z0 x] at ll
  refine wp_call ll (fun z hz => ?_)
  subst hz
  rw [i_cl (x := dO D (pp D)) (by omega), (h.2.1 _ o1).1, (h.2.1 _ o1).2.1]
  refine wp_ieq (y := 0) (by omega) (by omega) (fun e => wp_inb (by omega) (by omega) (wp_some ?_)) (fun e => wp_inb (by omega) (by omega) (wp_some ?_))
  · subst e
    rw [if_pos rfl, i_sub (by omega)]
    unfold LBB
    congr 1
    omega
  · have ex : x = 1 := by omega
    subst ex
    rw [if_neg (by decide), i_sub (by omega)]
    unfold LA
    congr 1
    omega
theorem r_isThere {M : am_M} {o x : Nat} {D : dd} (w : WF D) (h : RF M o D) (hx : x ≤ 1) : f_X5_isThere M o (Int32.ofNat x) = some (bz (cn D x)) := by
  have w5 := w.2.2.2.2.1
  have w6 := w.2.2.2.2.2.1
  unfold f_X5_isThere
  rw [h.2.2.1]
  refine wp_is (wp_be (r_all w.H h.H) (wp_le (by omega) (by omega) (fun e => wp_some ?_) (fun hr => wp_be (r_leftNow w h hx hr) ?_)))
  · unfold cn
    rw [decide_eq_false (by omega)]
    rfl
  · have hL := LL w hr
    have ec := cn_eq w hr hx
    generalize hl : (if x = 0 then LBB D else LA D) = l at ec
    have hl24 : l ≤ 24 := by
      by_cases hx0 : x = 0
      · rw [if_pos hx0] at hl; omega
      · rw [if_neg hx0] at hl; omega
    rw [ec]
    exact wp_le (y := 0) (by omega) (by omega) (fun e => wp_some (by rw [bz_n (by omega)])) (fun e => wp_some (by rw [bz_d e]))
theorem r_push {M : am_M} {o x : Nat} {D : dd} (h : RF M o D) : RF (am_si (am_si M 5 o 0 16 (Int32.ofNat (dr D + 1))) 617 o 0 (dr D) (Int32.ofNat x)) o (dRead D x) := by
  obtain ⟨h1, h2, h3, h4', h5, h6, h7⟩ := id h
  refine ⟨?_, fun i hi => ⟨?_, ?_, ?_⟩, ?_, fun i hi => ?_, ?_, fun i hi => ⟨?_, ?_, ?_⟩, ?_⟩
  · rw [si_k (by decide), si_j (by decide)]; exact h1
  · rw [si_k (by decide), si_k (by decide)]; exact (h2 i hi).1
  · rw [si_k (by decide), si_k (by decide)]; exact (h2 i hi).2.1
  · rw [si_k (by decide), si_k (by decide)]; exact (h2 i hi).2.2
  · rw [si_k (by decide), am_si_self]
    rfl
  · have hi : i < dr D + 1 := hi
    rw [si_e]
    show _ = Int32.ofNat (up (dS D) (dr D) x i)
    by_cases e : i = dr D
    · rw [if_pos e, e, up_e]
    · rw [if_neg e, up_n e, si_k (by decide)]
      exact h4' i (by omega)
  · rw [si_k (by decide), si_j (by decide)]; exact h5
  · rw [si_k (by decide), si_k (by decide)]; exact (h6 i hi).1
  · rw [si_k (by decide), si_k (by decide)]; exact (h6 i hi).2.1
  · rw [si_k (by decide), si_k (by decide)]; exact (h6 i hi).2.2
  · rw [si_k (by decide), si_j (by decide)]; exact h7
