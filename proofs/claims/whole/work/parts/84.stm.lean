/-! the statements of a tape -/
def stH (z : Nat) (c : Nat → Nat) (D : dd) (p : Nat) : Nat ⊕ (dd × Nat) :=
  if nb z c 0 10 (fr z c p) then (if nb z c (if vl z c (fr z c p) = 0 then 1 else 0) (min 10 (25 - dn D - vl z c (fr z c p))) (fr z c (te z c (fr z c p))) then .inr (dAddH D (vl z c (fr z c p)) (vl z c (fr z c (te z c (fr z c p)))), te z c (fr z c (te z c (fr z c p)))) else .inl (fr z c (te z c (fr z c p)))) else .inl (fr z c p)
def stF (z : Nat) (c : Nat → Nat) (D : dd) (p : Nat) : Nat ⊕ (dd × Nat) :=
  if nb z c 0 4 (fr z c p) then (if nb z c 0 25 (fr z c (te z c (fr z c p))) then (if nb z c 0 25 (fr z c (te z c (fr z c (te z c (fr z c p))))) then .inr (dAddF D (vl z c (fr z c p)) (vl z c (fr z c (te z c (fr z c p)))) (vl z c (fr z c (te z c (fr z c (te z c (fr z c p)))))), te z c (fr z c (te z c (fr z c (te z c (fr z c p)))))) else .inl (fr z c (te z c (fr z c (te z c (fr z c p)))))) else .inl (fr z c (te z c (fr z c p)))) else .inl (fr z c p)
def stS (z : Nat) (c : Nat → Nat) (D : dd) (p : Nat) : Nat ⊕ (dd × Nat) :=
  if nb z c 0 (dh D) (fr z c p) then (if nb z c 0 (dh D) (fr z c (te z c (fr z c p))) ∧ vl z c (fr z c (te z c (fr z c p))) ≠ vl z c (fr z c p) then .inr (dSwap D (vl z c (fr z c p)) (vl z c (fr z c (te z c (fr z c p)))), te z c (fr z c (te z c (fr z c p)))) else .inl (fr z c (te z c (fr z c p)))) else .inl (fr z c p)
def rdl (c : Nat → Nat) : Nat → Nat → dd → Option dd
  | 0, _, D => some D
  | k + 1, i, D => if c i = 97 then (if cn D 1 = true then rdl c k (i + 1) (dRead D 1) else none) else if c i = 98 then (if cn D 0 = true then rdl c k (i + 1) (dRead D 0) else none) else none
def stR1 (z : Nat) (c : Nat → Nat) (f : Nat) (r : Option dd) : Nat ⊕ (dd × Nat) :=
  match r with
  | none => .inl f
  | some D => .inr (D, te z c f)
def stR (z : Nat) (c : Nat → Nat) (D : dd) (p : Nat) : Nat ⊕ (dd × Nat) :=
  if kd z c (fr z c p) = 1 then stR1 z c (fr z c p) (rdl c (te z c (fr z c p) - fr z c p) (fr z c p) D) else .inl (fr z c p)
def stm (z : Nat) (c : Nat → Nat) (D : dd) (f : Nat) : Nat ⊕ (dd × Nat) :=
  if wd z c 0 f = true then (if dr D = 0 ∧ dh D < 4 then stH z c D (te z c f) else .inl f)
  else if wd z c 1 f = true then (if df D < 4 then stF z c D (te z c f) else .inl f)
  else if wd z c 2 f = true then stR z c D (te z c f)
  else if wd z c 3 f = true then (if dr D = 0 then stS z c D (te z c f) else .inl f)
  else .inl f
def PC (y : Int32 × am_M) : Nat ⊕ (dd × Nat) → Prop
  | .inl g => y.1 = 0 ∧ y.2.1 3 0 0 1 = Int32.ofNat g
  | .inr q => y.1 = 1 ∧ DR y.2 0 q.1 ∧ y.2.1 3 0 0 3 = Int32.ofNat q.2
def PR (z : Nat) (c : Nat → Nat) (y : Int32 × am_M) : Nat ⊕ (dd × Nat) → Prop
  | .inl g => y.1 = 0 ∧ y.2.1 5 0 0 25 = Int32.ofNat g
  | .inr q => y.1 = 1 ∧ RF y.2 0 q.1 ∧ TKr y.2 z c (fr z c q.2)
/-- what comes of a statement -/
theorem two_le {z : Nat} {c : Nat → Nat} {p : Nat} (hp : p ≤ z) : p ≤ te z c (fr z c p) ∧ te z c (fr z c p) ≤ z ∧ fr z c p ≤ z := by
  have := fr_le (c := c) hp
  have := te_le (c := c) this.2
  omega
theorem rdl_wf {c : Nat → Nat} : ∀ (k i : Nat) {D E : dd}, WF D → rdl c k i D = some E → WF E
  | 0, _, D, E, w, h => by cases h; exact w
  | k + 1, i, D, E, w, h => by
    rw [rdl] at h
    by_cases e1 : c i = 97
    · rw [if_pos e1] at h
      by_cases e2 : cn D 1 = true
      · rw [if_pos e2] at h
        exact rdl_wf k (i + 1) (w.read (by omega) e2) h
      · rw [if_neg e2] at h; cases h
    · rw [if_neg e1] at h
      by_cases e3 : c i = 98
      · rw [if_pos e3] at h
        by_cases e2 : cn D 0 = true
        · rw [if_pos e2] at h
          exact rdl_wf k (i + 1) (w.read (by omega) e2) h
        · rw [if_neg e2] at h; cases h
      · rw [if_neg e3] at h; cases h
theorem stm_wf {z : Nat} {c : Nat → Nat} {D : dd} {f : Nat} {q : dd × Nat} (w : WF D) (hf : f ≤ z) (h : stm z c D f = .inr q) : WF q.1 ∧ f + 1 ≤ q.2 ∧ q.2 ≤ z := by
  unfold stm at h
  have hl := te_le (c := c) hf
  have h1 := two_le (c := c) hl.2.1
  have h2 := two_le (c := c) h1.2.1
  have h3 := two_le (c := c) h2.2.1
  by_cases w0 : wd z c 0 f = true
  · rw [if_pos w0] at h
    have hz := (wd_c w0).2.2
    by_cases e : dr D = 0 ∧ dh D < 4
    · rw [if_pos e] at h
      unfold stH at h
      by_cases n1 : nb z c 0 10 (fr z c (te z c f))
      · rw [if_pos n1] at h
        by_cases n2 : nb z c (if vl z c (fr z c (te z c f)) = 0 then 1 else 0) (min 10 (25 - dn D - vl z c (fr z c (te z c f)))) (fr z c (te z c (fr z c (te z c f))))
        · rw [if_pos n2] at h
          cases h
          obtain ⟨a1, a2, a3⟩ := n1
          obtain ⟨b1, b2, b3⟩ := n2
          refine ⟨w.addH e.2 (by omega) (by omega) ?_ (by omega) e.1, by have := hl.2.2 hz; dsimp only; omega, h2.2.1⟩
          by_cases v0 : vl z c (fr z c (te z c f)) = 0
          · rw [if_pos v0] at b2; omega
          · omega
        · rw [if_neg n2] at h; cases h
      · rw [if_neg n1] at h; cases h
    · rw [if_neg e] at h; cases h
  rw [if_neg w0] at h
  by_cases w1 : wd z c 1 f = true
  · rw [if_pos w1] at h
    have hz := (wd_c w1).2.2
    by_cases e : df D < 4
    · rw [if_pos e] at h
      unfold stF at h
      split at h
      · next n1 =>
        split at h
        · next n2 =>
          split at h
          · next n3 =>
            cases h
            obtain ⟨a1, a2, a3⟩ := n1
            obtain ⟨b1, b2, b3⟩ := n2
            obtain ⟨c1, c2, c3⟩ := n3
            exact ⟨w.addF e (by omega) (by omega) (by omega), by have := hl.2.2 hz; dsimp only; omega, h3.2.1⟩
          · cases h
        · cases h
      · cases h
    · rw [if_neg e] at h; cases h
  rw [if_neg w1] at h
  by_cases w2 : wd z c 2 f = true
  · rw [if_pos w2] at h
    have hz := (wd_c w2).2.2
    unfold stR at h
    split at h
    · unfold stR1 at h
      split at h
      · cases h
      · next er =>
        cases h
        exact ⟨rdl_wf _ _ w er, by have := hl.2.2 hz; dsimp only; omega, h1.2.1⟩
    · cases h
  rw [if_neg w2] at h
  by_cases w3 : wd z c 3 f = true
  · rw [if_pos w3] at h
    have hz := (wd_c w3).2.2
    by_cases e : dr D = 0
    · rw [if_pos e] at h
      unfold stS at h
      split at h
      · next n1 =>
        split at h
        · next n2 =>
          cases h
          exact ⟨w.swap n1.2.2 n2.1.2.2 e, by have := hl.2.2 hz; dsimp only; omega, h2.2.1⟩
        · cases h
      · cases h
    · rw [if_neg e] at h; cases h
  · rw [if_neg w3] at h; cases h
/-! the class -/
theorem hx_k {k : Nat} (hk : k ≤ 1000) : ∀ v, v ≤ 100000 → (Int32.ofNat k < Int32.ofNat v ↔ k + 1 ≤ v) := fun v hv => by
  rw [i_lt (by omega) (by omega)]
  omega
theorem hx_m {k : Nat} (hk : k ≤ 1000) : ∀ v, v ≤ 100000 → (Int32.ofNat k - 1 < Int32.ofNat v ↔ k ≤ v) := fun v hv => by
  rw [Int32.lt_iff_toInt_lt, i_nm1 hk, i_ti (by omega)]
  omega
theorem c_stH {M : am_M} {z f : Nat} {c : Nat → Nat} {D : dd} (w : WF D) (hD : DR M 0 D) (hT : TPc M z c) (hK : TKc M z c f) (hf : f ≤ z) : wp (f_X3_heapStatement M 0) (fun y => PC y (if dr D = 0 ∧ dh D < 4 then stH z c D (te z c f) else .inl f)) := by
  have hl := te_le (c := c) hf
  have h1 := two_le (c := c) hl.2.1
  have w1 := w.1
  have w5 := w.2.2.2.2.1
  have w6 := w.2.2.2.2.2.1
  unfold f_X3_heapStatement
  rw [hD.1, hD.2.2.2.2.1]
  refine wp_lt (x := 0) (by omega) (by omega) (fun e => wp_some ?_) (fun e => wp_le (x := 4) (by omega) (by omega) (fun e4 => wp_some ?_) (fun e4 => ?_))
  · rw [if_neg (by omega)]; exact ⟨rfl, hK.1⟩
  · rw [if_neg (by omega)]; exact ⟨rfl, hK.1⟩
  rw [if_pos (by omega)]
  unfold stH
  refine wp_call (wp_kp (c_num (b := 10) hT hK.2.1 hl.2.1 (by omega) (hx_k (k := 9) (by omega))) fr_f_X3_isNumberNext) (fun y hy => ?_)
  obtain ⟨⟨t1, hy⟩, k1⟩ := hy
  have hT1 := hT.mv k1 rfl (fun _ => rfl)
  have hD1 := hD.ag k1 rfl
  rcases hy with ⟨n1, y1, y2⟩ | ⟨n1, y1⟩
  · rw [y1, if_pos n1]
    refine wp_neg (by decide) (wp_let ?_)
    rw [y2]
    refine wp_call (wp_kp (c_num (b := 10) hT1 t1.2.1 h1.2.1 (by omega) (hx_k (k := 9) (by omega))) fr_f_X3_isNumberNext) (fun u hu => ?_)
    obtain ⟨⟨t2, hu⟩, k2⟩ := hu
    have hD2 := hD1.ag k2 rfl
    rcases hu with ⟨n2, u1, u2⟩ | ⟨n2, u1⟩
    · rw [u1, u2]
      generalize fr z c (te z c (fr z c (te z c f))) = f2 at *
      generalize fr z c (te z c f) = f1 at *
      obtain ⟨a1, a2, a3⟩ := n1
      obtain ⟨b1, b2, b3⟩ := n2
      refine wp_neg (by decide) ?_
      rw [i_add]
      refine wp_ieq (y := 0) (by omega) (by omega) (fun e0 => wp_some ?_) (fun e0 => ?_)
      · rw [if_neg (fun h => by have h2 := h.2.1; rw [if_pos (by omega)] at h2; omega)]
        exact ⟨rfl, t2.1⟩
      · unfold f_X1_hasRoom
        rw [hD2.2.1, i_add]
        refine wp_call (Q := fun y => y = bz (decide (dn D + (vl z c f1 + vl z c f2) ≤ 24))) (wp_lt (x := 24) (by omega) (by omega) (fun h => wp_some (by rw [bz_n (by omega)])) (fun h => wp_some (by rw [bz_d (by omega)]))) (fun y hy => ?_)
        subst hy
        refine wp_bz (fun e => wp_some ?_) (fun e => ?_)
        · rw [decide_eq_false_iff_not] at e
          rw [if_neg (fun h => by have h3 := h.2.2; omega)]
          exact ⟨rfl, t2.1⟩
        · rw [decide_eq_true_eq] at e
          have hc : nb z c (if vl z c f1 = 0 then 1 else 0) (min 10 (25 - dn D - vl z c f1)) f2 := ⟨b1, by split <;> omega, by omega⟩
          rw [if_pos hc]
          refine wp_call (wp_kp (c_layIn w hD2 e4) fr_f_X1_layIn) (fun y hy => wp_some ⟨rfl, hy.1.2, ?_⟩)
          exact (hy.2.i _ _ _ _ rfl).trans t2.2.1
    · rw [u1]
      refine wp_pos rfl (wp_some ?_)
      rw [if_neg (show ¬ nb z c (if vl z c (fr z c (te z c f)) = 0 then 1 else 0) (min 10 (25 - dn D - vl z c (fr z c (te z c f)))) (fr z c (te z c (fr z c (te z c f)))) from fun h => n2 ⟨h.1, Nat.zero_le _, by have := h.2.2; omega⟩)]
      exact ⟨rfl, t2.1⟩
  · rw [y1, if_neg n1]
    exact wp_pos rfl (wp_some ⟨rfl, t1.1⟩)
theorem c_stF {M : am_M} {z f : Nat} {c : Nat → Nat} {D : dd} (w : WF D) (hD : DR M 0 D) (hT : TPc M z c) (hK : TKc M z c f) (hf : f ≤ z) : wp (f_X3_factStatement M 0) (fun y => PC y (if df D < 4 then stF z c D (te z c f) else .inl f)) := by
  have hl := te_le (c := c) hf
  have h1 := two_le (c := c) hl.2.1
  have h2 := two_le (c := c) h1.2.1
  have w9 := w.2.2.2.2.2.2.2.2.1
  unfold f_X3_factStatement
  rw [hD.2.2.2.2.2.2.2.1]
  refine wp_le (x := 4) (by omega) (by omega) (fun e => wp_some ?_) (fun e4 => ?_)
  · rw [if_neg (by omega)]; exact ⟨rfl, hK.1⟩
  rw [if_pos e4]
  unfold stF
  refine wp_call (wp_kp (c_num (b := 4) hT hK.2.1 hl.2.1 (by omega) (hx_k (k := 3) (by omega))) fr_f_X3_isNumberNext) (fun y hy => ?_)
  obtain ⟨⟨t1, hy⟩, k1⟩ := hy
  have hT1 := hT.mv k1 rfl (fun _ => rfl)
  have hD1 := hD.ag k1 rfl
  rcases hy with ⟨n1, y1, y2⟩ | ⟨n1, y1⟩
  · rw [y1, if_pos n1]
    refine wp_neg (by decide) (wp_let ?_)
    rw [y2]
    refine wp_call (wp_kp (c_num (b := 25) hT1 t1.2.1 h1.2.1 (by omega) (hx_k (k := 24) (by omega))) fr_f_X3_isNumberNext) (fun u hu => ?_)
    obtain ⟨⟨t2, hu⟩, k2⟩ := hu
    have hT2 := hT1.mv k2 rfl (fun _ => rfl)
    have hD2 := hD1.ag k2 rfl
    rcases hu with ⟨n2, u1, u2⟩ | ⟨n2, u1⟩
    · rw [u1, if_pos n2]
      refine wp_neg (by decide) (wp_let ?_)
      rw [u2]
      refine wp_call (wp_kp (c_num (b := 25) hT2 t2.2.1 h2.2.1 (by omega) (hx_k (k := 24) (by omega))) fr_f_X3_isNumberNext) (fun v hv => ?_)
      obtain ⟨⟨t3, hv⟩, k3⟩ := hv
      have hD3 := hD2.ag k3 rfl
      rcases hv with ⟨n3, v1, v2⟩ | ⟨n3, v1⟩
      · rw [v1, v2, if_pos n3]
        refine wp_neg (by decide) (wp_call (wp_kp (c_remember hD3 e4) fr_f_X1_remember) (fun y hy => wp_some ⟨rfl, hy.1.2, ?_⟩))
        exact (hy.2.i _ _ _ _ rfl).trans t3.2.1
      · rw [v1, if_neg n3]
        exact wp_pos rfl (wp_some ⟨rfl, t3.1⟩)
    · rw [u1, if_neg n2]
      exact wp_pos rfl (wp_some ⟨rfl, t2.1⟩)
  · rw [y1, if_neg n1]
    exact wp_pos rfl (wp_some ⟨rfl, t1.1⟩)
theorem c_stS {M : am_M} {z f : Nat} {c : Nat → Nat} {D : dd} (w : WF D) (hD : DR M 0 D) (hT : TPc M z c) (hK : TKc M z c f) (hf : f ≤ z) : wp (f_X3_swapStatement M 0) (fun y => PC y (if dr D = 0 then stS z c D (te z c f) else .inl f)) := by
  have hl := te_le (c := c) hf
  have h1 := two_le (c := c) hl.2.1
  have w1 := w.1
  have w5 := w.2.2.2.2.1
  have w6 := w.2.2.2.2.2.1
  unfold f_X3_swapStatement
  rw [hD.1, hD.2.2.2.2.1]
  refine wp_lt (x := 0) (by omega) (by omega) (fun e => wp_some ?_) (fun e => ?_)
  · rw [if_neg (by omega)]; exact ⟨rfl, hK.1⟩
  rw [if_pos (by omega)]
  unfold stS
  refine wp_call (wp_kp (c_num (b := dh D) hT hK.2.1 hl.2.1 (by omega) (hx_m (k := dh D) (by omega))) fr_f_X3_isNumberNext) (fun y hy => ?_)
  obtain ⟨⟨t1, hy⟩, k1⟩ := hy
  have hT1 := hT.mv k1 rfl (fun _ => rfl)
  have hD1 := hD.ag k1 rfl
  rcases hy with ⟨n1, y1, y2⟩ | ⟨n1, y1⟩
  · rw [y1, if_pos n1]
    refine wp_neg (by decide) (wp_let ?_)
    rw [y2, hD1.1]
    refine wp_call (wp_kp (c_num (b := dh D) hT1 t1.2.1 h1.2.1 (by omega) (hx_m (k := dh D) (by omega))) fr_f_X3_isNumberNext) (fun u hu => ?_)
    obtain ⟨⟨t2, hu⟩, k2⟩ := hu
    have hD2 := hD1.ag k2 rfl
    rcases hu with ⟨n2, u1, u2⟩ | ⟨n2, u1⟩
    · rw [u1, u2]
      have b1 := n1.2.2
      have b2 := n2.2.2
      refine wp_neg (by decide) (wp_ieq (by omega) (by omega) (fun e0 => wp_some ?_) (fun e0 => ?_))
      · rw [if_neg (fun h => h.2 e0)]
        exact ⟨rfl, t2.1⟩
      · rw [if_pos ⟨n2, e0⟩]
        refine wp_call (wp_km (c_exchange w hD2 b1 b2) fr_f_X1_exchange) (fun N hN => wp_some ⟨rfl, hN.1, ?_⟩)
        exact (hN.2.i _ _ _ _ rfl).trans t2.2.1
    · rw [u1]
      refine wp_pos rfl (wp_some ?_)
      rw [if_neg (show ¬ (nb z c 0 (dh D) (fr z c (te z c (fr z c (te z c f)))) ∧ vl z c (fr z c (te z c (fr z c (te z c f)))) ≠ vl z c (fr z c (te z c f))) from fun h => n2 h.1)]
      exact ⟨rfl, t2.1⟩
  · rw [y1, if_neg n1]
    exact wp_pos rfl (wp_some ⟨rfl, t1.1⟩)
theorem c_read19 {z e f : Nat} {c : Nat → Nat} (hez : e ≤ z) : ∀ (k n i : Nat) (M : am_M) (D : dd), i + k = e → k + 1 ≤ n → WF D → DR M 0 D → TPc M z c → M.1 3 0 0 1 = Int32.ofNat f → M.1 3 0 0 3 = Int32.ofNat e → wp (l_X3_readStatement_19 0 n (Int32.ofNat i) M) (fun y => match rdl c k i D with | none => y.1 = 0 ∧ y.2.1 3 0 0 1 = Int32.ofNat f | some E => y.1 = 1 ∧ DR y.2 0 E ∧ y.2.1 3 0 0 3 = Int32.ofNat e) := by
  intro k
  induction k with
  | zero =>
    intro n i M D hi hn w hD hT h1 h3
    have hz := hT.1
    obtain ⟨n', rfl⟩ : ∃ n', n = n' + 1 := ⟨n - 1, by omega⟩
    rw [l_X3_readStatement_19, h3]
    exact wp_le (by omega) (by omega) (fun _ => wp_some ⟨rfl, hD, h3⟩) (fun h => absurd h (by omega))
  | succ k ih =>
    intro n i M D hi hn w hD hT h1 h3
    have hz := hT.1
    obtain ⟨n', rfl⟩ : ∃ n', n = n' + 1 := ⟨n - 1, by omega⟩
    have h5 := (hT.2.2 i (by omega)).2
    rw [l_X3_readStatement_19, h3, i_cl (x := i) (by omega), (hT.2.2 i (by omega)).1, rdl]
    have go : ∀ (x : Nat), x ≤ 1 → wp ((f_X1_take M 0 (Int32.ofNat x)).bind (fun r11 => (if r11.1 = 0 then some ((0 : Int32), r11.2) else am_let (Int32.ofNat i + (1 : Int32)) (fun v12 => l_X3_readStatement_19 0 n' v12 r11.2)))) (fun y => match (if cn D x = true then rdl c k (i + 1) (dRead D x) else none) with | none => y.1 = 0 ∧ y.2.1 3 0 0 1 = Int32.ofNat f | some E => y.1 = 1 ∧ DR y.2 0 E ∧ y.2.1 3 0 0 3 = Int32.ofNat e) := by
      intro x hx
      refine wp_call (wp_kp (c_take w hD hx) fr_f_X1_take) (fun y hy => ?_)
      obtain ⟨hy, k1⟩ := hy
      rcases hy with ⟨q1, q2, q3⟩ | ⟨q1, q2⟩
      · rw [q2, if_pos q1]
        refine wp_neg (by decide) (wp_let ?_)
        rw [i_s]
        exact ih n' (i + 1) y.2 (dRead D x) (by omega) (by omega) (w.read hx q1) q3 (hT.mv k1 rfl (fun _ => rfl)) ((k1.i _ _ _ _ rfl).trans h1) ((k1.i _ _ _ _ rfl).trans h3)
      · rw [q2]
        refine wp_pos rfl (wp_some ?_)
        rw [q1, if_neg (show ¬ false = true from by decide)]
        exact ⟨rfl, h1⟩
    refine wp_le (by omega) (by omega) (fun h => absurd h (by omega)) (fun _ => wp_inb (by omega) (by omega) (wp_ieq (y := 97) (by omega) (by omega) (fun ea => ?_) (fun ea => ?_)))
    · rw [if_pos ea]
      refine wp_inb (by omega) (by omega) (wp_call (Q := fun y => y = Int32.ofNat 1) (wp_pos (by rw [ea]; rfl) (wp_some rfl)) (fun y hy => ?_))
      subst hy
      exact go 1 (by omega)
    · rw [if_neg ea]
      refine wp_inb (by omega) (by omega) (wp_ieq (y := 98) (by omega) (by omega) (fun eb => ?_) (fun eb => ?_))
      · rw [if_pos eb]
        refine wp_inb (by omega) (by omega) (wp_call (Q := fun y => y = Int32.ofNat 0) (wp_neg (by rw [eb]; decide) (wp_some rfl)) (fun y hy => ?_))
        subst hy
        exact go 0 (by omega)
      · rw [if_neg eb]
        exact wp_some ⟨rfl, h1⟩
theorem c_stR {M : am_M} {z f : Nat} {c : Nat → Nat} {D : dd} (w : WF D) (hD : DR M 0 D) (hT : TPc M z c) (hK : TKc M z c f) (hf : f ≤ z) : wp (f_X3_readStatement M 0) (fun y => PC y (stR z c D (te z c f))) := by
  have hz := hT.1
  have hl := te_le (c := c) hf
  have h1 := fr_le (c := c) hl.2.1
  have h2 := te_le (c := c) h1.2
  unfold f_X3_readStatement stR
  refine wp_call (wp_km (c_next hT hK.2.1 hl.2.1) fr_f_X3_nextToken) (fun N hN => ?_)
  obtain ⟨t1, k1⟩ := hN
  have hk4 := kd_le z c (fr z c (te z c f))
  rw [t1.2.2]
  refine wp_ieq (y := 1) (by omega) (by omega) (fun e => wp_let ?_) (fun e => wp_some (by rw [if_neg e]; exact ⟨rfl, t1.1⟩))
  rw [if_pos e, t1.1]
  refine wp_mono (c_read19 h2.2.1 (te z c (fr z c (te z c f)) - fr z c (te z c f)) 1000 (fr z c (te z c f)) N D (by omega) (by omega) w (hD.ag k1 rfl) (hT.mv k1 rfl (fun _ => rfl)) t1.1 t1.2.1) (fun y hy => ?_)
  unfold stR1
  cases er : rdl c (te z c (fr z c (te z c f)) - fr z c (te z c f)) (fr z c (te z c f)) D with
  | none => rw [er] at hy; exact hy
  | some E => rw [er] at hy; exact hy
theorem c_stm {M : am_M} {z f : Nat} {c : Nat → Nat} {D : dd} (w : WF D) (hD : DR M 0 D) (hT : TPc M z c) (hK : TKc M z c f) (hf : f ≤ z) : wp (f_X3_statement M 0) (fun y => PC y (stm z c D f)) := by
  have e01 : ∀ (y : Int32 × am_M) (r : Nat ⊕ (dd × Nat)), PC y r → y.1 = 0 ∨ y.1 = 1 := fun y r h => by
    cases r with
    | inl g => exact Or.inl h.1
    | inr q => exact Or.inr h.1
  unfold f_X3_statement stm
  refine wp_be (c_word hT hK hf 0) (wp_bz (fun w0 => wp_be (c_word hT hK hf 1) (wp_bz (fun w1 => wp_be (c_word hT hK hf 2) (wp_bz (fun w2 => wp_be (c_word hT hK hf 3) (wp_bz (fun w3 => wp_some ?_) (fun w3 => ?_))) (fun w2 => ?_))) (fun w1 => ?_))) (fun w0 => ?_))
  · rw [w0, w1, w2, w3]
    exact ⟨rfl, hK.1⟩
  · rw [w0, w1, w2, if_neg (by decide), if_neg (by decide), if_neg (by decide), if_pos w3]
    refine wp_call (c_stS w hD hT hK hf) (fun y hy => wp_ite (fun e => wp_some ?_) (fun e => wp_some ?_))
    · generalize (if dr D = 0 then stS z c D (te z c f) else .inl f) = r at hy ⊢
      cases r with
      | inl g => exact ⟨rfl, hy.2⟩
      | inr q => exact absurd (e.symm.trans hy.1) (by decide)
    · generalize (if dr D = 0 then stS z c D (te z c f) else .inl f) = r at hy ⊢
      cases r with
      | inl g => exact absurd hy.1 e
      | inr q => exact ⟨rfl, hy.2⟩
  · rw [w0, w1, if_neg (by decide), if_neg (by decide), if_pos w2]
    exact wp_call (c_stR w hD hT hK hf) (fun y hy => wp_pos (e01 _ _ hy) (wp_some hy))
  · rw [w0, if_neg (by decide), if_pos w1]
    exact wp_call (c_stF w hD hT hK hf) (fun y hy => wp_pos (e01 _ _ hy) (wp_some hy))
  · rw [if_pos w0]
    exact wp_call (c_stH w hD hT hK hf) (fun y hy => wp_pos (e01 _ _ hy) (wp_some hy))
