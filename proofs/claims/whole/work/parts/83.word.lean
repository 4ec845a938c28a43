/-! numbers and words, on both sides -/
def vl (z : Nat) (c : Nat → Nat) (f : Nat) : Nat := fg c f (te z c f)
theorem vl_b {z : Nat} {c : Nat → Nat} {f : Nat} (hk : kd z c f = 2) : vl z c f ≤ 100000 := by
  obtain ⟨hlt, e⟩ := kd_lt (show kd z c f ≠ 0 from by omega)
  have t1 := tk_2 (show tk (c f) = 2 from by omega)
  unfold vl fg
  split
  · omega
  · split
    · omega
    · split
      · next h =>
        have := te_k (z := z) (c := c) (f := f) (j := f + 1) (by omega) (by omega)
        have := tk_2 (show tk (c (f + 1)) = 2 from by omega)
        omega
      · omega
theorem vl_3 {z : Nat} {c : Nat → Nat} {f : Nat} (h : f + 2 < te z c f) : vl z c f = 100000 := by
  unfold vl fg
  rw [if_neg (by omega), if_neg (by omega), if_neg (by omega)]
abbrev nb (z : Nat) (c : Nat → Nat) (lo b f : Nat) : Prop := kd z c f = 2 ∧ lo ≤ vl z c f ∧ vl z c f < b
theorem c_num37 {z f e : Nat} {c : Nat → Nat} {a1 : Int32} (hf2 : tk (c f) = 2) (he : e ≤ f + 2) (hd : ∀ j, f ≤ j → j < e → tk (c j) = 2) : ∀ (n i : Nat) (M : am_M), TPc M z c → f ≤ i → i ≤ e → e ≤ z → e + 1 ≤ n + i → M.1 3 0 0 3 = Int32.ofNat e → M.1 3 0 0 5 = Int32.ofNat (fg c f i) → wp (l_X3_isNumberNext_37 a1 n (Int32.ofNat i) M) (fun N => N.1 3 0 0 5 = Int32.ofNat (fg c f e)) := by
  intro n
  induction n with
  | zero => intro i M h1 h2 h3; omega
  | succ n ih =>
    intro i M hT hfi hi hez hn h3 h5
    have hz := hT.1
    rw [l_X3_isNumberNext_37, h3, h5, i_cl (x := i) (by omega)]
    refine wp_le (by omega) (by omega) (fun e' => wp_some ?_) (fun hlt => ?_)
    · rw [show e = i from by omega]; exact h5
    rw [(hT.2.2 i (by omega)).1]
    have h2 := hd i hfi hlt
    have a2 := tk_2 h2
    have es := fg_s hfi hf2 h2
    rw [if_neg (by omega)] at es
    refine wp_inb (by omega) (by omega) (wp_let (wp_let ?_))
    rw [show Int32.ofNat (fg c f i) * (10 : Int32) = Int32.ofNat (fg c f i * 10) from i_mul _ 10, i_add, show (48 : Int32) = Int32.ofNat 48 from rfl, i_sub (by omega), ← es, i_s]
    exact ih (i + 1) _ (hT.mv ((keeps.rf [(3, some 0, some 5)] M).si rfl) rfl (fun _ => rfl)) (by omega) hlt hez (by omega) ((si_j (by decide)).trans h3) (by rw [am_si_self])
theorem c_num {M : am_M} {z p b : Nat} {c : Nat → Nat} {x1 : Int32} (hT : TPc M z c) (h3 : M.1 3 0 0 3 = Int32.ofNat p) (hp : p ≤ z) (hb : b ≤ 100) (hx : ∀ v, v ≤ 100000 → (x1 < Int32.ofNat v ↔ b ≤ v)) : wp (f_X3_isNumberNext M x1) (fun y => TKc y.2 z c (fr z c p) ∧ ((nb z c 0 b (fr z c p) ∧ y.1 = 1 ∧ y.2.1 3 0 0 5 = Int32.ofNat (vl z c (fr z c p))) ∨ (¬ nb z c 0 b (fr z c p) ∧ y.1 = 0))) := by
  have hz := hT.1
  have hf := fr_le (c := c) hp
  have hl := te_le (c := c) hf.2
  unfold f_X3_isNumberNext
  refine wp_call (wp_km (c_next hT h3 hp) fr_f_X3_nextToken) (fun N hN => ?_)
  obtain ⟨hN, k1⟩ := hN
  have hT1 := hT.mv k1 rfl (fun _ => rfl)
  generalize fr z c p = f at hN hf hl ⊢
  have hk4 := kd_le z c f
  rw [hN.2.2, hN.2.1, hN.1]
  refine wp_ieq (y := 2) (by omega) (by omega) (fun ek => ?_) (fun ek => wp_some ⟨hN, Or.inr ⟨fun h => ek h.1, rfl⟩⟩)
  obtain ⟨hlt, etk⟩ := kd_lt (show kd z c f ≠ 0 from by omega)
  rw [i_sub hl.1]
  refine wp_le (y := 2) (by omega) (by omega) (fun e2 => wp_let (wp_let ?_)) (fun e2 => wp_some ⟨hN, Or.inr ⟨fun h => ?_, rfl⟩⟩)
  · have k2 : keeps [(3, some 0, some 5)] N (am_si N 3 0 0 5 0) := (keeps.rf _ N).si rfl
    rw [si_j (by decide), hN.1]
    refine wp_call (wp_km (c_num37 (z := z) (f := f) (e := te z c f) (by omega) (by omega) (fun j j1 j2 => by rw [te_k j1 j2]; omega) 1000 f _ (hT1.mv k2 rfl (fun _ => rfl)) (Nat.le_refl _) hl.1 hl.2.1 (by omega) ((k2.i _ _ _ _ rfl).trans hN.2.1) (by rw [am_si_self]; unfold fg; rw [if_pos rfl]; rfl)) (fr_l_X3_isNumberNext_37 _ _ _)) (fun N3 h3 => ?_)
    obtain ⟨h3, k3⟩ := h3
    have hK : TKc N3 z c f := ⟨(k3.i _ _ _ _ rfl).trans ((k2.i _ _ _ _ rfl).trans hN.1), (k3.i _ _ _ _ rfl).trans ((k2.i _ _ _ _ rfl).trans hN.2.1), (k3.i _ _ _ _ rfl).trans ((k2.i _ _ _ _ rfl).trans hN.2.2)⟩
    have hv : N3.1 3 0 0 5 = Int32.ofNat (vl z c f) := h3
    rw [hv]
    refine wp_ite (fun e => wp_some ⟨hK, Or.inr ⟨fun h => ?_, rfl⟩⟩) (fun e => wp_some ⟨hK, Or.inl ⟨⟨ek, Nat.zero_le _, ?_⟩, rfl, hv⟩⟩)
    · rw [hx _ (vl_b ek)] at e
      exact absurd h.2.2 (by omega)
    · rw [hx _ (vl_b ek)] at e
      omega
  · have := vl_3 (z := z) (c := c) (f := f) (by omega)
    have := h.2.2
    omega
theorem r_num {M : am_M} {z f k lo b : Nat} {c : Nat → Nat} {x2 x3 : Int32} (hT : TPr M z c) (hK : TKr M z c f) (hf : f ≤ z) (hk : k < 3) (hx2 : x2.toInt = (lo : Int)) (hx3 : ∀ v : Nat, v ≤ 100000 → ((v : Int) ≤ x3.toInt ↔ v < b)) : wp (f_X5_number M 0 (Int32.ofNat k) x2 x3) (fun y => (nb z c lo b f ∧ y.1 = 1 ∧ y.2.1 626 0 0 k = Int32.ofNat (vl z c f) ∧ (∀ j, j ≠ k → y.2.1 626 0 0 j = M.1 626 0 0 j) ∧ TKr y.2 z c (fr z c (te z c f))) ∨ (¬ nb z c lo b f ∧ y.1 = 0 ∧ y.2.1 5 0 0 25 = Int32.ofNat f)) := by
  have hz := hT.1
  have hl := te_le (c := c) hf
  have hk4 := kd_le z c f
  have hw : ∀ Q : Int32 × am_M → Prop, Q (0, am_si M 5 0 0 25 (Int32.ofNat f)) → wp ((f_X5_wrong M 0).bind (fun r2 => if (r2.1 = 0 ∨ r2.1 = 1) then some (r2.1, r2.2) else none)) Q := fun Q hQ => by
    unfold f_X5_wrong
    rw [hK.1]
    exact wp_some hQ
  unfold f_X5_number
  rw [hK.2.2.1]
  refine wp_ieq (y := 2) (by omega) (by omega) (fun ek => ?_) (fun ek => hw _ (Or.inr ⟨fun h => ek h.1, rfl, by rw [am_si_self]⟩))
  have hv := vl_b ek
  have h24 : M.1 5 0 0 24 = Int32.ofNat (vl z c f) := hK.2.2.2 ek
  have e3 := hx3 _ hv
  rw [h24]
  refine wp_be (f_inI _ _ _ _) ?_
  rw [i_ti (by omega), hx2]
  refine wp_bz (fun e => hw _ (Or.inr ⟨fun h => ?_, rfl, by rw [am_si_self]⟩)) (fun e => ?_)
  · rw [decide_eq_false_iff_not] at e
    exact e ⟨by have := h.2.1; omega, e3.2 h.2.2⟩
  · rw [decide_eq_true_eq] at e
    have hnb : nb z c lo b f := ⟨ek, by have := e.1; omega, e3.1 e.2⟩
    rw [i_cl (x := k) (by omega)]
    refine wp_inb (by omega) (by omega) (wp_let ?_)
    have k1 : keeps [(626, some 0, none)] M (am_si M 626 0 0 k (Int32.ofNat (vl z c f))) := (keeps.rf _ M).si rfl
    refine wp_call (wp_km (r_look (hT.mv k1 rfl (fun _ => rfl)) ((k1.i _ _ _ _ rfl).trans hK.2.1) hl.2.1) fr_f_X5_look) (fun N hN => wp_some (Or.inl ⟨hnb, rfl, ?_, fun j hj => ?_, hN.1⟩))
    · rw [hN.2.i _ _ _ _ rfl, am_si_self]
    · rw [hN.2.i _ _ _ _ rfl, si_j hj]
theorem r_tells {M : am_M} {z p lo b : Nat} {c : Nat → Nat} {x2 x3 : Int32} (hT : TPr M z c) (h3 : M.1 5 0 0 21 = Int32.ofNat p) (hp : p ≤ z) (hx2 : x2.toInt = (lo : Int)) (hx3 : ∀ v : Nat, v ≤ 100000 → ((v : Int) ≤ x3.toInt ↔ v < b)) : wp (f_X5_tells M 0 x2 x3) (fun y => (nb z c lo b (fr z c p) ∧ y.1 = 1 ∧ y.2.1 626 0 0 0 = Int32.ofNat (vl z c (fr z c p)) ∧ TKr y.2 z c (fr z c (te z c (fr z c p)))) ∨ (¬ nb z c lo b (fr z c p) ∧ y.1 = 0 ∧ y.2.1 5 0 0 25 = Int32.ofNat (fr z c p))) := by
  have hf := fr_le (c := c) hp
  unfold f_X5_tells
  refine wp_call (wp_km (r_look hT h3 hp) fr_f_X5_look) (fun N hN => ?_)
  refine wp_call (r_num (k := 0) (hT.mv hN.2 rfl (fun _ => rfl)) hN.1 hf.2 (by omega) hx2 hx3) (fun y hy => ?_)
  rcases hy with ⟨h1, h2, h3, _, h4⟩ | ⟨h1, h2, h3⟩
  · exact wp_pos (Or.inr h2) (wp_some (Or.inl ⟨h1, h2, h3, h4⟩))
  · exact wp_pos (Or.inl h2) (wp_some (Or.inr ⟨h1, h2, h3⟩))
/-- words -/
def wl (c : Nat → Nat) (t f : Nat) : Nat → Nat → Bool
  | _, 0 => true
  | j, k + 1 => decide (Int32.ofNat (c (f + j)) = am_ch t (Int32.ofNat j)) && wl c t f (j + 1) k
def wd (z : Nat) (c : Nat → Nat) (t f : Nat) : Bool := decide (kd z c f = 1 ∧ te z c f = f + 4) && wl c t f 0 4
theorem c_word28 {M : am_M} {z f t : Nat} {c : Nat → Nat} (hT : TPc M z c) (h1 : M.1 3 0 0 1 = Int32.ofNat f) (hf : f + 4 ≤ z) : ∀ (k n j : Nat), j + k = 4 → k + 1 ≤ n → l_X3_isWord_28 M t n (Int32.ofNat j) = some (bz (wl c t f j k)) := by
  intro k
  have hz := hT.1
  induction k with
  | zero =>
    intro n j hj hn
    obtain ⟨n', rfl⟩ : ∃ n', n = n' + 1 := ⟨n - 1, by omega⟩
    have e : j = 4 := by omega
    subst e
    rfl
  | succ k ih =>
    intro n j hj hn
    obtain ⟨n', rfl⟩ : ∃ n', n = n' + 1 := ⟨n - 1, by omega⟩
    rw [l_X3_isWord_28, wl, h1, i_add, i_cl (x := f + j) (by omega), (hT.2.2 (f + j) (by omega)).1]
    refine wp_is (wp_be (show f_J0_length_8abf5 M t = some (Int32.ofNat 4) from rfl) (wp_le (by omega) (by omega) (fun h => absurd h (by omega)) (fun _ => wp_inb (by omega) (by omega) ?_)))
    have e1 : f_J0_charAt_5068e M t (Int32.ofNat j) = some (am_ch t (Int32.ofNat j)) := if_pos (i_inb (by omega) (by omega))
    refine wp_be e1 (wp_ite (fun e => wp_let ?_) (fun e => wp_some ?_))
    · rw [decide_eq_true e, Bool.true_and, i_s, ih n' (j + 1) (by omega) (by omega)]
      exact wp_some rfl
    · rw [decide_eq_false e, Bool.false_and]
      rfl
theorem c_word {M : am_M} {z f : Nat} {c : Nat → Nat} (hT : TPc M z c) (hK : TKc M z c f) (hf : f ≤ z) (t : Nat) : f_X3_isWord M t = some (bz (wd z c t f)) := by
  have hz := hT.1
  have hl := te_le (c := c) hf
  have hk4 := kd_le z c f
  unfold f_X3_isWord wd
  rw [hK.2.2, hK.2.1, hK.1]
  refine wp_is (wp_ieq (y := 1) (by omega) (by omega) (fun ek => wp_be (show f_J0_length_8abf5 M t = some (Int32.ofNat 4) from rfl) ?_) (fun ek => wp_some ?_))
  · rw [i_sub hl.1]
    refine wp_ieq (by omega) (by omega) (fun e => ?_) (fun e => wp_some ?_)
    · rw [decide_eq_true (show kd z c f = 1 ∧ te z c f = f + 4 from ⟨ek, by omega⟩), Bool.true_and]
      rw [show (0 : Int32) = Int32.ofNat 0 from rfl, c_word28 hT hK.1 (by omega) 4 1000 0 (by omega) (by omega)]
      exact wp_some rfl
    · rw [decide_eq_false (fun h => e (by omega)), Bool.false_and]
      rfl
  · rw [decide_eq_false (fun h => ek h.1), Bool.false_and]
    rfl
theorem r_word28 {M : am_M} {z f t : Nat} {c : Nat → Nat} (hT : TPr M z c) (h1 : M.1 5 0 0 23 = Int32.ofNat f) (hf : f + 4 ≤ z) : ∀ (k n j : Nat), j + k = 4 → k + 1 ≤ n → l_X5_isWord_28 M t 0 n (Int32.ofNat j) = some (bz (wl c t f j k)) := by
  intro k
  have hz := hT.1
  induction k with
  | zero =>
    intro n j hj hn
    obtain ⟨n', rfl⟩ : ∃ n', n = n' + 1 := ⟨n - 1, by omega⟩
    have e : j = 4 := by omega
    subst e
    rfl
  | succ k ih =>
    intro n j hj hn
    obtain ⟨n', rfl⟩ : ∃ n', n = n' + 1 := ⟨n - 1, by omega⟩
    rw [l_X5_isWord_28, wl, h1, i_add, i_cl (x := f + j) (by omega), (hT.2.2 (f + j) (by omega)).1]
    refine wp_is (wp_be (show f_J0_length_8abf5 M t = some (Int32.ofNat 4) from rfl) (wp_le (by omega) (by omega) (fun h => absurd h (by omega)) (fun _ => wp_inb (by omega) (by omega) ?_)))
    have e1 : f_J0_charAt_5068e M t (Int32.ofNat j) = some (am_ch t (Int32.ofNat j)) := if_pos (i_inb (by omega) (by omega))
    refine wp_be e1 (wp_ite (fun e => wp_let ?_) (fun e => wp_some ?_))
    · rw [decide_eq_true e, Bool.true_and, i_s, ih n' (j + 1) (by omega) (by omega)]
      exact wp_some rfl
    · rw [decide_eq_false e, Bool.false_and]
      rfl
theorem r_word {M : am_M} {z f : Nat} {c : Nat → Nat} (hT : TPr M z c) (hK : TKr M z c f) (hf : f ≤ z) (t : Nat) : f_X5_isWord M 0 t = some (bz (wd z c t f)) := by
  have hz := hT.1
  have hl := te_le (c := c) hf
  have hk4 := kd_le z c f
  unfold f_X5_isWord wd
  rw [hK.2.2.1, hK.2.1, hK.1]
  refine wp_is (wp_ieq (y := 1) (by omega) (by omega) (fun ek => wp_be (show f_J0_length_8abf5 M t = some (Int32.ofNat 4) from rfl) ?_) (fun ek => wp_some ?_))
  · rw [i_sub hl.1]
    refine wp_ieq (by omega) (by omega) (fun e => ?_) (fun e => wp_some ?_)
    · rw [decide_eq_true (show kd z c f = 1 ∧ te z c f = f + 4 from ⟨ek, by omega⟩), Bool.true_and]
      rw [show (0 : Int32) = Int32.ofNat 0 from rfl, r_word28 hT hK.1 (by omega) 4 1000 0 (by omega) (by omega)]
      exact wp_some rfl
    · rw [decide_eq_false (fun h => e (by omega)), Bool.false_and]
      rfl
  · rw [decide_eq_false (fun h => ek h.1), Bool.false_and]
    rfl
theorem wd_c {z : Nat} {c : Nat → Nat} {t f : Nat} (h : wd z c t f = true) : Int32.ofNat (c f) = am_ch t 0 ∧ te z c f = f + 4 ∧ f < z := by
  unfold wd at h
  rw [Bool.and_eq_true, decide_eq_true_eq, wl, Bool.and_eq_true, decide_eq_true_eq] at h
  have h1 := h.1.1
  exact ⟨h.2.1, h.1.2, (kd_lt (show kd z c f ≠ 0 from by omega)).1⟩
theorem wd_x {z : Nat} {c : Nat → Nat} {t u f : Nat} (h : wd z c t f = true) (ht : t < 4) (hu : u < 4) (hne : t ≠ u) : wd z c u f = false := by
  cases e : wd z c u f with
  | false => rfl
  | true =>
    have e1 := (wd_c h).1
    have e2 := (wd_c e).1
    have : ∀ t, t < 4 → ∀ u, u < 4 → t ≠ u → am_ch t 0 ≠ am_ch u 0 := by decide
    exact absurd (e1.symm.trans e2) (this t ht u hu hne)
