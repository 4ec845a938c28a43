/-! the reference's seeAll -/
theorem i_lead {t a : Nat} (ht : t ≤ 1000) (ha : a ≤ 1000) : ((2 : Int32) * Int32.ofNat a - Int32.ofNat t).toInt = 2 * (a : Int) - t := by
  rw [show (2 : Int32) = Int32.ofNat 2 from rfl, i_mul, i_tsub (by rw [i_ti (by omega), i_ti (by omega)]; omega) (by rw [i_ti (by omega), i_ti (by omega)]; omega), i_ti (by omega), i_ti (by omega)]
  omega
theorem wp_ti {α : Type} {x y : Int32} {u v : Option α} {Q : α → Prop} (h1 : x.toInt < y.toInt → wp u Q) (h2 : y.toInt ≤ x.toInt → wp v Q) : wp (if x < y then u else v) Q :=
  wp_ite (fun h => h1 (Int32.lt_iff_toInt_lt.mp h)) (fun h => h2 (by rw [Int32.lt_iff_toInt_lt] at h; omega))
theorem wp_tl {α : Type} {x y : Int32} {u v : Option α} {Q : α → Prop} (h1 : x.toInt ≤ y.toInt → wp u Q) (h2 : y.toInt < x.toInt → wp v Q) : wp (if x ≤ y then u else v) Q :=
  wp_ite (fun h => h1 (Int32.le_iff_toInt_le.mp h)) (fun h => h2 (by rw [Int32.le_iff_toInt_le] at h; omega))
theorem wp_te {α : Type} {x y : Int32} {u v : Option α} {Q : α → Prop} (h1 : x.toInt = y.toInt → wp u Q) (h2 : x.toInt ≠ y.toInt → wp v Q) : wp (if x = y then u else v) Q :=
  wp_ite (fun h => h1 (by rw [h])) (fun h => h2 (fun z => h (Int32.toInt_inj.mp z)))
theorem r_holds {M : am_M} {o i t a k u v : Nat} (hi : i < 4) (h0 : M.1 715 o i 0 = Int32.ofNat k) (h1 : M.1 715 o i 1 = Int32.ofNat u) (h2 : M.1 715 o i 2 = Int32.ofNat v) (ht : t ≤ 24) (ha : a ≤ 24) (hk : k ≤ 3) (hu : u ≤ 24) (hv : v ≤ 24) : f_X5_holds_ M o (Int32.ofNat i) (Int32.ofNat t) (Int32.ofNat a) = some (bz (fh k u v t a)) := by
  unfold f_X5_holds_
  have hl := i_lead (t := t) (a := a) (by omega) (by omega)
  rw [i_cl (x := i) (by omega), show (0 : Int32).toNatClampNeg = 0 from rfl, show (1 : Int32).toNatClampNeg = 1 from rfl, show (2 : Int32).toNatClampNeg = 2 from rfl, h0, h1, h2]
  refine wp_is (wp_let (wp_inb hi (by omega) (wp_inb hi (by omega) (wp_be (f_inI _ _ _ _) (wp_inb hi (by omega) ?_)))))
  rw [i_ti (x := t) (by omega), i_ti (x := u) (by omega), i_ti (x := v) (by omega)]
  have ea : ∀ s b : Nat, ah 1 s b = decide (s < 2 * b) := fun s b => by unfold ah; rw [decide_eq_decide]; omega
  unfold fh
  rw [ea]
  refine wp_ieq (y := 0) (by omega) (by omega) (fun e => ?_) (fun e0 => ?_)
  · subst e
    rw [if_pos rfl]
    refine wp_inb hi (by omega) (wp_ieq (by omega) (by omega) (fun e => wp_inb hi (by omega) (wp_ieq (by omega) (by omega) (fun e' => wp_some ?_) (fun e' => wp_some ?_))) (fun e => wp_some ?_))
    · rw [decide_eq_true e, decide_eq_true e']; rfl
    · rw [decide_eq_true e, decide_eq_false e']; rfl
    · rw [decide_eq_false e]; rfl
  rw [if_neg e0]
  refine wp_ieq (y := 1) (by omega) (by omega) (fun e => ?_) (fun e1 => ?_)
  · subst e
    rw [if_pos rfl]
    refine wp_bz (fun e => wp_some ?_) (fun e => wp_tl (fun e' => wp_some ?_) (fun e' => wp_some ?_))
    · rw [decide_eq_false_iff_not] at e
      rw [decide_eq_false (by omega)]; rfl
    · rw [decide_eq_true_eq] at e
      rw [hl, t0] at e'
      rw [decide_eq_true (by omega), decide_eq_false (by omega)]; rfl
    · rw [decide_eq_true_eq] at e
      rw [hl, t0] at e'
      rw [decide_eq_true (by omega), decide_eq_true (by omega)]; rfl
  rw [if_neg e1]
  refine wp_ieq (y := 2) (by omega) (by omega) (fun e => ?_) (fun e2 => ?_)
  · subst e
    rw [if_pos rfl]
    refine wp_inb hi (by omega) (wp_ieq (by omega) (by omega) (fun e => wp_te (fun e' => wp_some ?_) (fun e' => wp_some ?_)) (fun e => wp_some ?_))
    · rw [hl, t0] at e'
      rw [decide_eq_true e, decide_eq_true (by omega)]; rfl
    · rw [hl, t0] at e'
      rw [decide_eq_true e, decide_eq_false (by omega)]; rfl
    · rw [decide_eq_false e]; rfl
  rw [if_neg e2]
  refine wp_bz (fun e => wp_some ?_) (fun e => wp_ti (fun e' => wp_some ?_) (fun e' => wp_some ?_))
  · rw [decide_eq_false_iff_not] at e
    rw [decide_eq_false (by omega)]; rfl
  · rw [decide_eq_true_eq] at e
    rw [hl, t0] at e'
    rw [decide_eq_true (by omega), decide_eq_false (by omega)]; rfl
  · rw [decide_eq_true_eq] at e
    rw [hl, t0] at e'
    rw [decide_eq_true (by omega), decide_eq_true (by omega)]; rfl
theorem r_readA_4 {M : am_M} {o r t : Nat} {S : Nat → Nat} (hr : r ≤ 24) (ht : t ≤ r) (hS : ∀ i, i < r → M.1 617 o 0 i = Int32.ofNat (S i)) : ∀ (m j : Nat), j ≤ t → t + 1 ≤ m + j → wp (l_X5_readA_4 M o (Int32.ofNat t) m (Int32.ofNat (sm S j)) (Int32.ofNat j)) (fun y => y = Int32.ofNat (sm S t)) := by
  intro m
  induction m with
  | zero => intro j h1 h2; omega
  | succ m ih =>
    intro j hj hm
    rw [l_X5_readA_4]
    refine wp_le (by omega) (by omega) (fun h' => ?_) (fun hlt => ?_)
    · have e : j = t := by omega
      subst e
      exact wp_some rfl
    refine wp_inb (by omega) (by omega) (wp_let (wp_let ?_))
    rw [i_cl (by omega), hS j (by omega), i_add, i_s]
    exact ih (j + 1) (by omega) (by omega)
theorem r_readA {M : am_M} {o r t : Nat} {S : Nat → Nat} (hr : r ≤ 24) (ht : t ≤ r) (hS : ∀ i, i < r → M.1 617 o 0 i = Int32.ofNat (S i)) : f_X5_readA M o (Int32.ofNat t) = some (Int32.ofNat (sm S t)) := by
  unfold f_X5_readA
  exact wp_is (wp_call (r_readA_4 hr ht hS 1000 0 (by omega) (by omega)) (fun y hy => wp_some hy))
theorem r_isFit_26 {M : am_M} {o f t a : Nat} {z : Bool} {K T V : Nat → Nat} (hf : f ≤ 4) (ht : t ≤ 24) (ha : a ≤ 24) (h0 : M.1 5 o 0 14 = Int32.ofNat f) (hM : ∀ i, i < f → M.1 715 o i 0 = Int32.ofNat (K i) ∧ M.1 715 o i 1 = Int32.ofNat (T i) ∧ M.1 715 o i 2 = Int32.ofNat (V i)) (hF : ∀ i, i < f → K i ≤ 3 ∧ T i ≤ 24 ∧ V i ≤ 24) : ∀ (m i : Nat), i ≤ f → f + 1 ≤ m + i → wp (l_X5_isFit_26 M o (Int32.ofNat t) (Int32.ofNat a) m (bz (z && FA K T V i t a)) (Int32.ofNat i)) (fun y => y = bz (z && FA K T V f t a)) := by
  intro m
  induction m with
  | zero => intro i h1 h2; omega
  | succ m ih =>
    intro i hi hm
    rw [l_X5_isFit_26, h0]
    refine wp_le (by omega) (by omega) (fun h' => ?_) (fun hlt => ?_)
    · have e : i = f := by omega
      subst e
      exact wp_some rfl
    obtain ⟨a1, a2, a3⟩ := hM i hlt
    obtain ⟨b1, b2, b3⟩ := hF i hlt
    refine wp_be (r_holds (by omega) a1 a2 a3 ht ha b1 b2 b3) (wp_let (wp_let ?_))
    rw [bz_and, i_s, Bool.and_assoc]
    exact ih (i + 1) (by omega) (by omega)
def fit (D : dd) (t a : Nat) : Bool := decide (dr D < t ∨ a = sm (dS D) t) && FA (dK D) (dT D) (dV D) (df D) t a
theorem r_isFit {M : am_M} {o t a : Nat} {D : dd} (w : WF D) (h : RF M o D) (ht : t ≤ 24) (ha : a ≤ 24) : f_X5_isFit M o (Int32.ofNat t) (Int32.ofNat a) = some (bz (fit D t a)) := by
  obtain ⟨w1, w2, w3, w4, w5, w6, w7, w8, w9, w10⟩ := id w
  obtain ⟨h1, h2, h3, h4, h5, h6, h7⟩ := id h
  unfold f_X5_isFit
  rw [h3]
  refine wp_is (wp_call (Q := fun z => z = bz (decide (dr D < t ∨ a = sm (dS D) t))) ?_ (fun z hz => ?_))
  · refine wp_lt (by omega) (by omega) (fun h' => wp_some ?_) (fun h' => ?_)
    · rw [bz_d (Or.inl h')]
    · have hs := sm_le1 w7 t h'
      refine wp_be (r_readA (r := dr D) (by omega) h' h4) (wp_ieq (by omega) (by omega) (fun e => wp_some ?_) (fun e => wp_some ?_))
      · rw [bz_d (Or.inr e)]
      · rw [bz_n (by omega)]
  · subst hz
    have e0 : (decide (dr D < t ∨ a = sm (dS D) t) && FA (dK D) (dT D) (dV D) 0 t a) = decide (dr D < t ∨ a = sm (dS D) t) := Bool.and_true _
    have := r_isFit_26 (M := M) (o := o) (z := decide (dr D < t ∨ a = sm (dS D) t)) w9 ht ha h5 h6 w10 1000 0 (by omega) (by omega)
    rw [e0] at this
    refine wp_call this (fun y hy => ?_)
    subst hy
    exact wp_pos (bz_01 _) (wp_some rfl)
theorem RF.s728 {M : am_M} {o : Nat} {D : dd} (h : RF M o D) (o' i j : Nat) (v : Int32) : RF (am_si M 728 o' i j v) o D :=
  h.mv ((keeps.rf [(728, none, none)] M).si rfl) ⟨rfl, rfl, rfl, rfl, fun _ => rfl, fun _ => rfl, fun _ => rfl, fun _ => rfl, fun _ => rfl⟩
theorem r_seeAll_16 {o t : Nat} {D : dd} {p : Nat → Bool} (w : WF D) (ht : t ≤ 24) : ∀ (m x : Nat) (M : am_M), x ≤ t + 1 → t + 2 ≤ m + x → RF M o D → (∀ b, b ≤ t → x ≤ b → M.1 728 o t b = bz (p b)) → wp (l_X5_seeAll_16 o (Int32.ofNat t) m (Int32.ofNat x) M) (fun N => ∀ s b, N.1 728 o s b = if s = t ∧ x ≤ b ∧ b ≤ t then bz (p b && fit D t b) else M.1 728 o s b) := by
  intro m
  induction m with
  | zero => intro x M h1 h2; omega
  | succ m ih =>
    intro x M hx hm hR hp
    rw [l_X5_seeAll_16, i_cl (x := t) (by omega), i_cl (x := x) (by omega)]
    refine wp_lt (by omega) (by omega) (fun h => wp_some (fun s b => by rw [if_neg (by omega)])) (fun h1 => ?_)
    refine wp_inb (by omega) (by omega) (wp_inb (by omega) (by omega) (wp_be (r_isFit w hR ht (by omega)) (wp_inb (by omega) (by omega) ?_)))
    rw [hp x h1 (Nat.le_refl _), bz_and]
    refine wp_pos (bz_01 _) (wp_let (wp_let ?_))
    rw [i_s]
    refine wp_mono (ih (x + 1) _ (by omega) (by omega) (hR.s728 _ _ _ _) (fun b hb hxb => ?_)) (fun N hN s b => ?_)
    · rw [si2, if_neg (by omega)]
      exact hp b hb (by omega)
    · rw [hN s b, si2]
      by_cases hc : s = t ∧ b = x
      · rw [if_neg (show ¬ (s = t ∧ x + 1 ≤ b ∧ b ≤ t) from by omega), if_pos hc, if_pos (show s = t ∧ x ≤ b ∧ b ≤ t from by omega), hc.2]
      · by_cases hd : s = t ∧ x ≤ b ∧ b ≤ t
        · rw [if_pos hd, if_pos (show s = t ∧ x + 1 ≤ b ∧ b ≤ t from by omega)]
        · rw [if_neg hd, if_neg (show ¬ (s = t ∧ x + 1 ≤ b ∧ b ≤ t) from by omega), if_neg hc]
theorem rfS_728 (o : Nat) : rfS o [(728, some o, none)] := ⟨rfl, rfl, rfl, rfl, fun _ => rfl, fun _ => rfl, fun _ => rfl, fun _ => rfl, fun _ => rfl⟩
theorem r_seeAll_6 {o n : Nat} {D : dd} {P : Nat → Nat → Bool} (w : WF D) (hn : n ≤ 24) (hP : ∀ t a, t < a → P t a = false) : ∀ (m t : Nat) (M : am_M), t ≤ n + 1 → n + 2 ≤ m + t → RF M o D → M.1 5 o 0 29 = Int32.ofNat n → (∀ s b, s ≤ n → b ≤ 24 → M.1 728 o s b = bz (P s b && (decide (t ≤ s) || fit D s b))) → wp (l_X5_seeAll_6 o m (Int32.ofNat t) M) (fun N => ∀ s b, s ≤ n → b ≤ 24 → N.1 728 o s b = bz (P s b && fit D s b)) := by
  intro m
  induction m with
  | zero => intro t M h1 h2; omega
  | succ m ih =>
    intro t M ht hm hR h0 hC
    rw [l_X5_seeAll_6, h0]
    refine wp_lt (by omega) (by omega) (fun h => wp_some (fun s b hs hb => ?_)) (fun h => ?_)
    · rw [hC s b hs hb, decide_eq_false (by omega), Bool.false_or]
    refine wp_call (wp_km (r_seeAll_16 (p := P t) w (by omega) 1000 0 M (by omega) (by omega) hR (fun b hb _ => ?_)) (fr_l_X5_seeAll_16 _ _ _)) (fun N hN => wp_let ?_)
    · rw [hC t b h (by omega), decide_eq_true (Nat.le_refl t), Bool.true_or, Bool.and_true]
    obtain ⟨hN, hk⟩ := hN
    rw [i_s]
    refine ih (t + 1) N (by omega) (by omega) (hR.mv hk (rfS_728 o)) ((hk.i _ _ _ _ rfl).trans h0) (fun s b hs hb => ?_)
    rw [hN s b]
    by_cases hc : s = t ∧ 0 ≤ b ∧ b ≤ t
    · rw [if_pos hc, hc.1, decide_eq_false (by omega), Bool.false_or]
    · rw [if_neg hc, hC s b hs hb]
      by_cases h1 : s = t
      · rw [hP s b (by omega), Bool.false_and, Bool.false_and]
      · rw [show decide (t ≤ s) = decide (t + 1 ≤ s) from by rw [decide_eq_decide]; omega]
theorem r_seeAll {M : am_M} {o : Nat} {D : dd} (w : WF D) (h : RF M o D) : wp (f_X5_seeAll M o) (fun N => RM N o (dn D) (PF D)) := by
  have w5 := w.2.2.2.2.1
  unfold f_X5_seeAll
  refine wp_call (wp_km (r_seeHeaps w.H h.H) fr_f_X5_seeHeaps) (fun N hN => ?_)
  obtain ⟨hN, hk⟩ := hN
  have hR : RF N o D := h.mv hk ⟨kpS_j rfl, kpS_j rfl, kpS_j rfl, kpS_j rfl, fun _ => rfl, fun _ => rfl, fun _ => rfl, fun _ => rfl, fun _ => rfl⟩
  refine wp_call (wp_km (r_seeAll_6 (P := DP D) w w5 (fun t a h => DP_gt D h) 1000 0 N (by omega) (by omega) hR hN.1 (fun s b hs hb => ?_)) (fr_l_X5_seeAll_6 _ _ _)) (fun N2 hN2 => wp_some ⟨(hN2.2.i _ _ _ _ rfl).trans hN.1, fun t a ht ha => ?_⟩)
  · rw [hN.2 s b hs hb, decide_eq_true (Nat.zero_le s), Bool.true_or, Bool.and_true]
  · rw [hN2.1 t a ht ha]
    unfold PF fit
    rw [Bool.and_assoc]
