/-! the reference: when it is sure -/
theorem r_sureAt {M : am_M} {o n t a : Nat} (h0 : M.1 5 o 0 29 = Int32.ofNat n) (hn : n ≤ 24) (ht : t ≤ n) (ha : a ≤ t) : f_X5_isSureAt M o (Int32.ofNat t) (Int32.ofNat a) = some (bz (decide (n < 2 * a ∨ n + 2 * a < 2 * t))) := by
  unfold f_X5_isSureAt
  have hl := i_lead (t := t) (a := a) (by omega) (by omega)
  rw [h0, i_sub ht]
  refine wp_is (wp_let (wp_ti (fun h => wp_some ?_) (fun h => wp_tl (fun h' => wp_some ?_) (fun h' => wp_some ?_))))
  · rw [hl, i_ti (by omega)] at h
    rw [bz_d (by omega)]
  · rw [hl, i_ti (by omega)] at h
    rw [i_tneg (by rw [hl]; omega), hl, i_ti (by omega)] at h'
    rw [bz_n (by omega)]
  · rw [hl, i_ti (by omega)] at h
    rw [i_tneg (by rw [hl]; omega), hl, i_ti (by omega)] at h'
    rw [bz_d (by omega)]
theorem us_d {n t x : Nat} (ht : t ≤ n) (htn : t ≠ n) (h : decide (n < 2 * x ∨ n + 2 * x < 2 * t) = false) : us n t x = true := by
  rw [decide_eq_false_iff_not] at h
  unfold us
  rw [decide_eq_true_eq]
  omega
theorem us_e {n t x : Nat} (h : decide (n < 2 * x ∨ n + 2 * x < 2 * t) = true) : us n t x = false := by
  rw [decide_eq_true_eq] at h
  unfold us
  rw [decide_eq_false_iff_not]
  omega
def FS (P R : Nat → Nat → Bool) (n e t a : Nat) : Nat := cf (qm R (us n) t) t a * bk P n e t a
theorem FS_u {P R : Nat → Nat → Bool} {n e t a : Nat} (h : us n t a = true) : FS P R n e t a = 0 := by
  unfold FS
  rw [cf_no (by rw [qm_ge (Nat.le_refl t), h]; simp), Nat.zero_mul]
theorem FS_n {P R : Nat → Nat → Bool} {n e t a : Nat} (h : R t a = false) : FS P R n e t a = 0 := by
  unfold FS
  rw [cf_no (by rw [qm_ge (Nat.le_refl t), h]; simp), Nat.zero_mul]
theorem r_fs42 {o n e t : Nat} {P : Nat → Nat → Bool} (hn : n ≤ 24) (ht : t ≤ n) (hend : ∀ a, P n a = true → a = e) : ∀ (m x : Nat) (M : am_M), x ≤ t + 1 → t + 2 ≤ m + x → M.1 5 o 0 29 = Int32.ofNat n → (∀ a, a ≤ t → M.1 728 o t a = bz (P t a)) → (∀ b, b < t → M.2 730 o (t - 1) b = Int64.ofNat (cf (qu P (us n)) (t - 1) b)) → (∀ b, b ≤ t → M.2 731 o t b = Int64.ofNat (bk P n e t b)) → M.2 634 o 0 t = Int64.ofNat (sm (FS P P n e t) x) → wp (l_X5_findSure_42 o (bz (decide (2 * e = n))) (Int32.ofNat t) m (Int32.ofNat x) M) (fun N => (∀ s b, N.2 730 o s b = if s = t ∧ x ≤ b ∧ b ≤ t then Int64.ofNat (cf (qu P (us n)) t b) else M.2 730 o s b) ∧ N.2 634 o 0 t = Int64.ofNat (sm (FS P P n e t) (t + 1)) ∧ ∀ j, j ≠ t → N.2 634 o 0 j = M.2 634 o 0 j) := by
  intro m
  induction m with
  | zero => intro x M h1 h2; omega
  | succ m ih =>
    intro x M hx hm h5 h7 hb h31 h34
    rw [l_X5_findSure_42]
    refine wp_lt (by omega) (by omega) (fun h => wp_some ⟨fun s b => by rw [if_neg (by omega)], by rw [h34, show x = t + 1 from by omega], fun _ _ => rfl⟩) (fun h1 => ?_)
    refine wp_be (r_pre (u := cf (qu P (us n)) (t - 1)) (by omega) h1 hb (fun h0 => cf_gt _ (by omega))) ?_
    rw [i_cl (x := t) (by omega), i_cl (x := x) (by omega), h7 x h1]
    refine wp_inb (by omega) (by omega) (wp_inb (by omega) (by omega) (wp_inb (by omega) (by omega) ?_))
    refine wp_call (Q := fun z => z = Int64.ofNat (if P t x = true then (if t = 0 then 1 else cf (qu P (us n)) (t - 1) x + pv (cf (qu P (us n)) (t - 1)) x) else 0)) (wp_bz (fun hP => wp_some (by rw [hP, if_neg (by decide)]; rfl)) (fun hP => wp_some (by rw [hP, if_pos rfl]))) (fun z hz => ?_)
    subst hz
    have q1 : us n t x = true → (if P t x = true then (if t = 0 then 1 else cf (qu P (us n)) (t - 1) x + pv (cf (qu P (us n)) (t - 1)) x) else 0) = cf (qu P (us n)) t x := fun hk => q_us h1 hk
    have q2 : us n t x = false → (if P t x = true then (if t = 0 then 1 else cf (qu P (us n)) (t - 1) x + pv (cf (qu P (us n)) (t - 1)) x) else 0) = cf (qm P (us n) t) t x := fun hk => q_sure h1 hk
    have q3 : P t x = false → (if P t x = true then (if t = 0 then 1 else cf (qu P (us n)) (t - 1) x + pv (cf (qu P (us n)) (t - 1)) x) else 0) = cf (qu P (us n)) t x := fun hP => by rw [if_neg (by rw [hP]; decide), cf_no (by unfold qu; rw [hP]; rfl)]
    generalize (if P t x = true then (if t = 0 then 1 else cf (qu P (us n)) (t - 1) x + pv (cf (qu P (us n)) (t - 1)) x) else 0) = v at q1 q2 q3 ⊢
    refine wp_inb (by omega) (by omega) (wp_let ?_)
    refine wp_be (r_sureAt (by rw [sl_i]; exact h5) hn ht h1) ?_
    have hA : v = cf (qu P (us n)) t x → FS P P n e t x = 0 → (∀ s b, (am_sl M 730 o t x (Int64.ofNat v)).2 730 o s b = if s = t ∧ b = x then Int64.ofNat (cf (qu P (us n)) t x) else M.2 730 o s b) ∧ (∀ j, (am_sl M 730 o t x (Int64.ofNat v)).2 634 o 0 j = if j = t then Int64.ofNat (sm (FS P P n e t) (x + 1)) else M.2 634 o 0 j) ∧ keeps [(634, none, none), (730, none, none)] M (am_sl M 730 o t x (Int64.ofNat v)) := by
      intro e1 e2
      refine ⟨fun s b => by rw [sl2, e1], fun j => ?_, (keeps.rf _ M).sl rfl⟩
      rw [sl_k (by decide)]
      by_cases hj : j = t
      · rw [if_pos hj, hj, h34, sm, e2, Nat.add_zero]
      · rw [if_neg hj]
    have hB : us n t x = false → (∀ s b, (am_sl (am_sl (am_sl M 730 o t x (Int64.ofNat v)) 634 o 0 t ((am_sl M 730 o t x (Int64.ofNat v)).2 634 o 0 t + (am_sl M 730 o t x (Int64.ofNat v)).2 730 o t x * (am_sl M 730 o t x (Int64.ofNat v)).2 731 o t x)) 730 o t x (0 : Int64)).2 730 o s b = if s = t ∧ b = x then Int64.ofNat (cf (qu P (us n)) t x) else M.2 730 o s b) ∧ (∀ j, (am_sl (am_sl (am_sl M 730 o t x (Int64.ofNat v)) 634 o 0 t ((am_sl M 730 o t x (Int64.ofNat v)).2 634 o 0 t + (am_sl M 730 o t x (Int64.ofNat v)).2 730 o t x * (am_sl M 730 o t x (Int64.ofNat v)).2 731 o t x)) 730 o t x (0 : Int64)).2 634 o 0 j = if j = t then Int64.ofNat (sm (FS P P n e t) (x + 1)) else M.2 634 o 0 j) ∧ keeps [(634, none, none), (730, none, none)] M (am_sl (am_sl (am_sl M 730 o t x (Int64.ofNat v)) 634 o 0 t ((am_sl M 730 o t x (Int64.ofNat v)).2 634 o 0 t + (am_sl M 730 o t x (Int64.ofNat v)).2 730 o t x * (am_sl M 730 o t x (Int64.ofNat v)).2 731 o t x)) 730 o t x (0 : Int64)) := by
      intro hk
      have e0 : cf (qu P (us n)) t x = 0 := cf_no (by unfold qu; rw [hk, Bool.and_false])
      refine ⟨fun s b => ?_, fun j => ?_, (((keeps.rf _ M).sl rfl).sl rfl).sl rfl⟩
      · rw [sl2, sl_k (by decide), sl2, e0]
        by_cases hc : s = t ∧ b = x
        · rw [if_pos hc, if_pos hc]
          rfl
        · rw [if_neg hc, if_neg hc, if_neg hc]
      · rw [sl_k (by decide), sl_e, am_sl_self, sl_k (k' := 634) (by decide), sl_k (k' := 731) (by decide), sl_k (k' := 634) (by decide), h34, h31 x h1, l_mul, l_add, q2 hk]
        rfl
    refine wp_call (Q := fun N => (∀ s b, N.2 730 o s b = if s = t ∧ b = x then Int64.ofNat (cf (qu P (us n)) t x) else M.2 730 o s b) ∧ (∀ j, N.2 634 o 0 j = if j = t then Int64.ofNat (sm (FS P P n e t) (x + 1)) else M.2 634 o 0 j) ∧ keeps [(634, none, none), (730, none, none)] M N) ?_ (fun N hN => wp_let ?_)
    · refine wp_bz (fun hs => ?_) (fun hs => ?_)
      · refine wp_bz (fun hsame => wp_some ?_) (fun hsame => ?_)
        · by_cases htn : t = n
          · have hP : P t x = false := by
              cases hP : P t x with
              | false => rfl
              | true =>
                rw [htn] at hP
                have := hend x hP
                rw [decide_eq_false_iff_not] at hs hsame
                omega
            exact hA (q3 hP) (FS_n hP)
          · exact hA (q1 (us_d ht htn hs)) (FS_u (us_d ht htn hs))
        · rw [sl_i, h5]
          refine wp_ieq (by omega) (by omega) (fun htn => ?_) (fun htn => wp_some (hA (q1 (us_d ht htn hs)) (FS_u (us_d ht htn hs))))
          exact wp_inb (by omega) (by omega) (wp_inb (by omega) (by omega) (wp_inb (by omega) (by omega) (wp_inb (by omega) (by omega) (wp_inb (by omega) (by omega) (wp_inb (by omega) (by omega) (wp_let (wp_inb (by omega) (by omega) (wp_inb (by omega) (by omega) (wp_let (wp_some (hB (by rw [htn]; exact us_n n x))))))))))))
      · exact wp_inb (by omega) (by omega) (wp_inb (by omega) (by omega) (wp_inb (by omega) (by omega) (wp_inb (by omega) (by omega) (wp_inb (by omega) (by omega) (wp_inb (by omega) (by omega) (wp_let (wp_inb (by omega) (by omega) (wp_inb (by omega) (by omega) (wp_let (wp_some (hB (us_e hs))))))))))))
    · obtain ⟨n1, n2, hk⟩ := hN
      rw [i_s]
      refine wp_mono (ih (x + 1) N (by omega) (by omega) ((hk.i _ _ _ _ rfl).trans h5) (fun a ha => (hk.i _ _ _ _ rfl).trans (h7 a ha)) (fun b hb' => ?_) (fun b hb' => (hk.l _ _ _ _ rfl).trans (h31 b hb')) (by rw [n2 t, if_pos rfl])) (fun N' hN' => ⟨fun s b => ?_, hN'.2.1, fun j hj => ?_⟩)
      · rw [n1, if_neg (by omega)]
        exact hb b hb'
      · rw [hN'.1 s b, n1 s b]
        by_cases hc : s = t ∧ b = x
        · rw [if_neg (show ¬ (s = t ∧ x + 1 ≤ b ∧ b ≤ t) from by omega), if_pos hc, if_pos (show s = t ∧ x ≤ b ∧ b ≤ t from by omega), hc.2]
        · by_cases hd : s = t ∧ x ≤ b ∧ b ≤ t
          · rw [if_pos hd, if_pos (show s = t ∧ x + 1 ≤ b ∧ b ≤ t from by omega)]
          · rw [if_neg hd, if_neg (show ¬ (s = t ∧ x + 1 ≤ b ∧ b ≤ t) from by omega), if_neg hc]
      · rw [hN'.2.2 j hj, n2 j, if_neg hj]
theorem r_fs25 {o n e : Nat} {P : Nat → Nat → Bool} (hn : n ≤ 24) (hend : ∀ a, P n a = true → a = e) : ∀ (m t : Nat) (M : am_M), t ≤ n + 1 → n + 2 ≤ m + t → RM M o n P → (∀ s b, s < t → b ≤ s → M.2 730 o s b = Int64.ofNat (cf (qu P (us n)) s b)) → (∀ s b, s ≤ n → b ≤ s → M.2 731 o s b = Int64.ofNat (bk P n e s b)) → (∀ j, j < t → M.2 634 o 0 j = Int64.ofNat (sm (FS P P n e j) (j + 1))) → wp (l_X5_findSure_25 o (bz (decide (2 * e = n))) m (Int32.ofNat t) M) (fun N => ∀ j, j ≤ n → N.2 634 o 0 j = Int64.ofNat (sm (FS P P n e j) (j + 1))) := by
  intro m
  induction m with
  | zero => intro t M h1 h2; omega
  | succ m ih =>
    intro t M ht hm hR hC h31 h34
    rw [l_X5_findSure_25, hR.1]
    refine wp_lt (by omega) (by omega) (fun h => wp_some (fun j hj => h34 j (by omega))) (fun h => ?_)
    refine wp_inb (by omega) (by omega) (wp_let ?_)
    rw [i_cl (x := t) (by omega)]
    refine wp_call (wp_km (r_fs42 (P := P) (e := e) hn h hend 1000 0 _ (by omega) (by omega) (by rw [sl_i]; exact hR.1) (fun a ha => by rw [sl_i]; exact hR.2 t a h (by omega)) (fun b hb => by rw [sl_k (by decide)]; exact hC (t - 1) b (by omega) (by omega)) (fun b hb => by rw [sl_k (by decide)]; exact h31 t b h hb) (by rw [am_sl_self]; rfl)) (fr_l_X5_findSure_42 _ _ _)) (fun N hN => wp_let ?_)
    obtain ⟨⟨n1, n2, n3⟩, hk⟩ := hN
    rw [i_s]
    refine ih (t + 1) N (by omega) (by omega) ⟨?_, fun s a hs ha => ?_⟩ (fun s b hs hb => ?_) (fun s b hs hb => ?_) (fun j hj => ?_)
    · rw [hk.i 5 o 0 29 rfl, sl_i]
      exact hR.1
    · rw [hk.i 728 o s a rfl, sl_i]
      exact hR.2 s a hs ha
    · rw [n1 s b]
      by_cases hc : s = t ∧ 0 ≤ b ∧ b ≤ t
      · rw [if_pos hc, hc.1]
      · rw [if_neg hc, sl_k (by decide)]
        exact hC s b (by omega) hb
    · rw [hk.l 731 o s b rfl, sl_k (by decide)]
      exact h31 s b hs hb
    · by_cases hjt : j = t
      · rw [hjt]
        exact n2
      · rw [n3 j hjt, sl_e, if_neg hjt]
        exact h34 j (by omega)
theorem r_same {M : am_M} {o n e : Nat} (hn : n ≤ 24) (he : e ≤ 24) (h0 : M.1 5 o 0 29 = Int32.ofNat n) : wp (if ((2 : Int32) * Int32.ofNat e) = (M.1 5 o 0 29) then some (1 : Int32) else some (0 : Int32)) (fun y => y = bz (decide (2 * e = n))) := by
  rw [h0, show (2 : Int32) = Int32.ofNat 2 from rfl, i_mul]
  exact wp_ieq (by omega) (by omega) (fun h => wp_some (by rw [bz_d h])) (fun h => wp_some (by rw [bz_n h]))
theorem r_findSure {M : am_M} {o : Nat} {D : dd} {P : Nat → Nat → Bool} (w : WH D) (hH : RH M o D) (hR : RM M o (dn D) P) (hend : ∀ a, P (dn D) a = true → a = de D) : wp (f_X5_findSure M o) (fun N => ∀ j, j ≤ dn D → N.2 634 o 0 j = Int64.ofNat (tf P (us (dn D)) (dn D) (de D) j)) := by
  have hn := w.2.2.2.2
  have he := de_le (D := D)
  unfold f_X5_findSure
  refine wp_be (r_allA w hH) (wp_call (r_same hn (by omega) hR.1) (fun z hz => ?_))
  subst hz
  refine wp_call (wp_km (r_countBack hn hR hend) fr_f_X5_countBack) (fun N hN => ?_)
  refine wp_call (r_fs25 (P := P) (e := de D) hn hend 1000 0 N (by omega) (by omega) (hR.mv hN.2 rfl (fun _ => rfl)) (fun s b hs => absurd hs (Nat.not_lt_zero s)) hN.1 (fun j hj => absurd hj (Nat.not_lt_zero j))) (fun N2 hN2 => wp_some (fun j hj => ?_))
  rw [hN2 j hj, tf_first (us_1 _) (us_2 _) hj]
  rfl
/-! the reference: ahead until it is sure -/
theorem r_cs40 {o n e t k : Nat} {P : Nat → Nat → Bool} (hn : n ≤ 24) (ht : t ≤ n) (hk9 : k ≤ 9) (hend : ∀ a, P n a = true → a = e) (c0 : Nat) : ∀ (m x : Nat) (M : am_M), x ≤ t + 1 → t + 2 ≤ m + x → M.1 5 o 0 29 = Int32.ofNat n → (∀ a, a ≤ t → M.1 728 o t a = bz (P t a)) → (∀ b, b < t → M.2 730 o (t - 1) b = Int64.ofNat (cf (qu (cq P (ah k)) (us n)) (t - 1) b)) → (∀ b, b ≤ t → M.2 731 o t b = Int64.ofNat (bk P n e t b)) → wp (l_X5_countSurely_40 o (Int32.ofNat k) (bz (decide (2 * e = n))) (Int32.ofNat t) m (Int64.ofNat (c0 + sm (FS P (cq P (ah k)) n e t) x)) (Int32.ofNat x) M) (fun N => (∀ s b, N.2.2 730 o s b = if s = t ∧ x ≤ b ∧ b ≤ t then Int64.ofNat (cf (qu (cq P (ah k)) (us n)) t b) else M.2 730 o s b) ∧ N.1 = Int64.ofNat (c0 + sm (FS P (cq P (ah k)) n e t) (t + 1))) := by
  intro m
  induction m with
  | zero => intro x M h1 h2; omega
  | succ m ih =>
    intro x M hx hm h5 h7 hb h31
    rw [l_X5_countSurely_40]
    refine wp_lt (by omega) (by omega) (fun h => wp_some ⟨fun s b => by rw [if_neg (by omega)], by rw [show x = t + 1 from by omega]⟩) (fun h1 => ?_)
    refine wp_be (r_pre (u := cf (qu (cq P (ah k)) (us n)) (t - 1)) (by omega) h1 hb (fun h0 => cf_gt _ (by omega))) ?_
    rw [i_cl (x := t) (by omega), i_cl (x := x) (by omega), h7 x h1]
    refine wp_inb (by omega) (by omega) (wp_inb (by omega) (by omega) (wp_inb (by omega) (by omega) ?_))
    refine wp_call (Q := fun z => z = Int64.ofNat (if cq P (ah k) t x = true then (if t = 0 then 1 else cf (qu (cq P (ah k)) (us n)) (t - 1) x + pv (cf (qu (cq P (ah k)) (us n)) (t - 1)) x) else 0)) (wp_bz (fun hP => wp_some ?_) (fun hP => ?_)) (fun z hz => ?_)
    · rw [if_neg (by unfold cq; rw [hP]; simp)]
      rfl
    · refine wp_ieq (y := 0) (by omega) (by omega) (fun h0 => wp_some ?_) (fun h0 => ?_)
      · rw [if_pos (show cq P (ah k) t x = true from by unfold cq; rw [hP, decide_eq_true h0]; rfl)]
      · have hw := m_le (k := k) (t := t - x) hk9 (show t - x ≤ 24 from by omega)
        have hi := ah_iff (k := k) h1
        rw [i_sub h1, i_mul]
        refine wp_le (by omega) (by omega) (fun h => wp_some ?_) (fun h => wp_some ?_)
        · rw [if_neg (show ¬ cq P (ah k) t x = true from by unfold cq ah; rw [decide_eq_false h0, decide_eq_false (by omega)]; simp)]
          rfl
        · rw [if_pos (show cq P (ah k) t x = true from by unfold cq ah; rw [hP, decide_eq_true (show k * t < x * (k + 1) from by omega)]; simp)]
    subst hz
    have q1 : us n t x = true → (if cq P (ah k) t x = true then (if t = 0 then 1 else cf (qu (cq P (ah k)) (us n)) (t - 1) x + pv (cf (qu (cq P (ah k)) (us n)) (t - 1)) x) else 0) = cf (qu (cq P (ah k)) (us n)) t x := fun hk => q_us h1 hk
    have q2 : us n t x = false → (if cq P (ah k) t x = true then (if t = 0 then 1 else cf (qu (cq P (ah k)) (us n)) (t - 1) x + pv (cf (qu (cq P (ah k)) (us n)) (t - 1)) x) else 0) = cf (qm (cq P (ah k)) (us n) t) t x := fun hk => q_sure h1 hk
    have q3 : cq P (ah k) t x = false → (if cq P (ah k) t x = true then (if t = 0 then 1 else cf (qu (cq P (ah k)) (us n)) (t - 1) x + pv (cf (qu (cq P (ah k)) (us n)) (t - 1)) x) else 0) = cf (qu (cq P (ah k)) (us n)) t x := fun hP => by rw [if_neg (by rw [hP]; decide), cf_no (by unfold qu; rw [hP]; rfl)]
    generalize (if cq P (ah k) t x = true then (if t = 0 then 1 else cf (qu (cq P (ah k)) (us n)) (t - 1) x + pv (cf (qu (cq P (ah k)) (us n)) (t - 1)) x) else 0) = v at q1 q2 q3 ⊢
    refine wp_inb (by omega) (by omega) (wp_let ?_)
    refine wp_be (r_sureAt (by rw [sl_i]; exact h5) hn ht h1) ?_
    have hA : v = cf (qu (cq P (ah k)) (us n)) t x → FS P (cq P (ah k)) n e t x = 0 → (∀ s b, (am_sl M 730 o t x (Int64.ofNat v)).2 730 o s b = if s = t ∧ b = x then Int64.ofNat (cf (qu (cq P (ah k)) (us n)) t x) else M.2 730 o s b) ∧ Int64.ofNat (c0 + sm (FS P (cq P (ah k)) n e t) x) = Int64.ofNat (c0 + sm (FS P (cq P (ah k)) n e t) (x + 1)) ∧ keeps [(730, none, none)] M (am_sl M 730 o t x (Int64.ofNat v)) := by
      intro e1 e2
      exact ⟨fun s b => by rw [sl2, e1], by rw [sm, e2, Nat.add_zero], (keeps.rf _ M).sl rfl⟩
    have hB : us n t x = false → (∀ s b, (am_sl (am_sl M 730 o t x (Int64.ofNat v)) 730 o t x (0 : Int64)).2 730 o s b = if s = t ∧ b = x then Int64.ofNat (cf (qu (cq P (ah k)) (us n)) t x) else M.2 730 o s b) ∧ Int64.ofNat (c0 + sm (FS P (cq P (ah k)) n e t) x) + (am_sl M 730 o t x (Int64.ofNat v)).2 730 o t x * (am_sl M 730 o t x (Int64.ofNat v)).2 731 o t x = Int64.ofNat (c0 + sm (FS P (cq P (ah k)) n e t) (x + 1)) ∧ keeps [(730, none, none)] M (am_sl (am_sl M 730 o t x (Int64.ofNat v)) 730 o t x (0 : Int64)) := by
      intro hk
      have e0 : cf (qu (cq P (ah k)) (us n)) t x = 0 := cf_no (by unfold qu; rw [hk, Bool.and_false])
      refine ⟨fun s b => ?_, ?_, ((keeps.rf _ M).sl rfl).sl rfl⟩
      · rw [sl2, sl2, e0]
        by_cases hc : s = t ∧ b = x
        · rw [if_pos hc, if_pos hc]
          rfl
        · rw [if_neg hc, if_neg hc, if_neg hc]
      · rw [am_sl_self, sl_k (by decide), h31 x h1, l_mul, l_add, q2 hk, Nat.add_assoc]
        rfl
    refine wp_call (Q := fun N => (∀ s b, N.2.2 730 o s b = if s = t ∧ b = x then Int64.ofNat (cf (qu (cq P (ah k)) (us n)) t x) else M.2 730 o s b) ∧ N.1 = Int64.ofNat (c0 + sm (FS P (cq P (ah k)) n e t) (x + 1)) ∧ keeps [(730, none, none)] M N.2) ?_ (fun N hN => wp_let ?_)
    · refine wp_bz (fun hs => ?_) (fun hs => ?_)
      · refine wp_bz (fun hsame => wp_some ?_) (fun hsame => ?_)
        · by_cases htn : t = n
          · have hP : cq P (ah k) t x = false := by
              unfold cq
              cases hP : P t x with
              | false => rfl
              | true =>
                rw [htn] at hP
                have := hend x hP
                rw [decide_eq_false_iff_not] at hs hsame
                omega
            exact hA (q3 hP) (FS_n hP)
          · exact hA (q1 (us_d ht htn hs)) (FS_u (us_d ht htn hs))
        · rw [sl_i, h5]
          refine wp_ieq (by omega) (by omega) (fun htn => ?_) (fun htn => wp_some (hA (q1 (us_d ht htn hs)) (FS_u (us_d ht htn hs))))
          exact wp_inb (by omega) (by omega) (wp_inb (by omega) (by omega) (wp_inb (by omega) (by omega) (wp_inb (by omega) (by omega) (wp_let (wp_inb (by omega) (by omega) (wp_inb (by omega) (by omega) (wp_let (wp_some (hB (by rw [htn]; exact us_n n x))))))))))
      · exact wp_inb (by omega) (by omega) (wp_inb (by omega) (by omega) (wp_inb (by omega) (by omega) (wp_inb (by omega) (by omega) (wp_let (wp_inb (by omega) (by omega) (wp_inb (by omega) (by omega) (wp_let (wp_some (hB (us_e hs))))))))))
    · obtain ⟨n1, n2, hk⟩ := hN
      rw [i_s, n2]
      refine wp_mono (ih (x + 1) N.2 (by omega) (by omega) ((hk.i _ _ _ _ rfl).trans h5) (fun a ha => (hk.i _ _ _ _ rfl).trans (h7 a ha)) (fun b hb' => ?_) (fun b hb' => (hk.l _ _ _ _ rfl).trans (h31 b hb'))) (fun N' hN' => ⟨fun s b => ?_, hN'.2⟩)
      · rw [n1, if_neg (by omega)]
        exact hb b hb'
      · rw [hN'.1 s b, n1 s b]
        by_cases hc : s = t ∧ b = x
        · rw [if_neg (show ¬ (s = t ∧ x + 1 ≤ b ∧ b ≤ t) from by omega), if_pos hc, if_pos (show s = t ∧ x ≤ b ∧ b ≤ t from by omega), hc.2]
        · by_cases hd : s = t ∧ x ≤ b ∧ b ≤ t
          · rw [if_pos hd, if_pos (show s = t ∧ x + 1 ≤ b ∧ b ≤ t from by omega)]
          · rw [if_neg hd, if_neg (show ¬ (s = t ∧ x + 1 ≤ b ∧ b ≤ t) from by omega), if_neg hc]
theorem r_cs28 {o n e k : Nat} {P : Nat → Nat → Bool} (hn : n ≤ 24) (hk9 : k ≤ 9) (hend : ∀ a, P n a = true → a = e) : ∀ (m t : Nat) (M : am_M), t ≤ n + 1 → n + 2 ≤ m + t → RM M o n P → (∀ s b, s < t → b ≤ s → M.2 730 o s b = Int64.ofNat (cf (qu (cq P (ah k)) (us n)) s b)) → (∀ s b, s ≤ n → b ≤ s → M.2 731 o s b = Int64.ofNat (bk P n e s b)) → wp (l_X5_countSurely_28 o (Int32.ofNat k) (bz (decide (2 * e = n))) m (Int64.ofNat (sm (fun s => sm (FS P (cq P (ah k)) n e s) (s + 1)) t)) (Int32.ofNat t) M) (fun N => N.1 = Int64.ofNat (sm (fun s => sm (FS P (cq P (ah k)) n e s) (s + 1)) (n + 1))) := by
  intro m
  induction m with
  | zero => intro t M h1 h2; omega
  | succ m ih =>
    intro t M ht hm hR hC h31
    rw [l_X5_countSurely_28, hR.1]
    refine wp_lt (by omega) (by omega) (fun h => wp_some (by rw [show t = n + 1 from by omega])) (fun h => ?_)
    refine wp_call (wp_kp (r_cs40 (P := P) (e := e) hn h hk9 hend (sm (fun s => sm (FS P (cq P (ah k)) n e s) (s + 1)) t) 1000 0 M (by omega) (by omega) hR.1 (fun a ha => hR.2 t a h (by omega)) (fun b hb => hC (t - 1) b (by omega) (by omega)) (fun b hb => h31 t b h hb)) (fr_l_X5_countSurely_40 _ _ _ _)) (fun N hN => wp_let ?_)
    obtain ⟨⟨n1, n2⟩, hk⟩ := hN
    rw [i_s, n2]
    refine ih (t + 1) N.2 (by omega) (by omega) (hR.mv hk rfl (fun _ => rfl)) (fun s b hs hb => ?_) (fun s b hs hb => (hk.l _ _ _ _ rfl).trans (h31 s b hs hb))
    rw [n1 s b]
    by_cases hc : s = t ∧ 0 ≤ b ∧ b ≤ t
    · rw [if_pos hc, hc.1]
    · rw [if_neg hc]
      exact hC s b (by omega) hb
theorem r_countSurely {M : am_M} {o k : Nat} {D : dd} {P : Nat → Nat → Bool} (w : WH D) (hk9 : k ≤ 9) (hH : RH M o D) (hR : RM M o (dn D) P) (hend : ∀ a, P (dn D) a = true → a = de D) : wp (f_X5_countSurely M o (Int32.ofNat k)) (fun N => N.1 = Int64.ofNat (cf (QS P (dn D) k) (dn D) (de D))) := by
  have hn := w.2.2.2.2
  have he := de_le (D := D)
  unfold f_X5_countSurely
  refine wp_be (r_allA w hH) (wp_call (r_same hn (by omega) hR.1) (fun z hz => ?_))
  subst hz
  refine wp_call (wp_km (r_countBack hn hR hend) fr_f_X5_countBack) (fun N hN => ?_)
  refine wp_call (r_cs28 (P := P) (e := de D) hn hk9 hend 1000 0 N (by omega) (by omega) (hR.mv hN.2 rfl (fun _ => rfl)) (fun s b hs => absurd hs (Nat.not_lt_zero s)) hN.1) (fun N2 hN2 => wp_some ?_)
  show N2.1 = _
  rw [hN2, ← surely_eq]
  rfl
