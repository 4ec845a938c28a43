/-! sums over rows -/
def FN (P : Nat → Nat → Bool) (n e t a : Nat) : Nat := if ah 1 t a = true then cf P t a * bw P e (n - t) t a else 0
theorem r_sp26 {M : am_M} {o n e t : Nat} {P : Nat → Nat → Bool} (hn : n ≤ 24) (ht : t ≤ n) (h30 : ∀ a, a ≤ t → M.2 730 o t a = Int64.ofNat (cf P t a)) (h31 : ∀ a, a ≤ t → M.2 731 o t a = Int64.ofNat (bk P n e t a)) (c0 : Nat) : ∀ (m x : Nat), x ≤ t + 1 → t + 2 ≤ m + x → wp (l_X5_spentNow_26 M o (Int32.ofNat t) m (Int64.ofNat (c0 + sm (FN P n e t) x)) (Int32.ofNat x)) (fun y => y = Int64.ofNat (c0 + sm (FN P n e t) (t + 1))) := by
  intro m
  induction m with
  | zero => intro x h1 h2; omega
  | succ m ih =>
    intro x hx hm
    rw [l_X5_spentNow_26, show (2 : Int32) = Int32.ofNat 2 from rfl, i_mul]
    refine wp_lt (by omega) (by omega) (fun h => wp_some (by rw [show x = t + 1 from by omega])) (fun h1 => ?_)
    refine wp_call (Q := fun z => z = Int64.ofNat (FN P n e t x)) ?_ (fun z hz => wp_let (wp_let ?_))
    · unfold FN ah
      refine wp_le (by omega) (by omega) (fun h => wp_some ?_) (fun h => ?_)
      · rw [decide_eq_false (by omega), if_neg (by decide)]
        rfl
      · rw [decide_eq_true (show 1 * t < x * (1 + 1) from by omega), if_pos rfl, ← cf_bk]
        exact wp_be (r_through hn ht h1 (h30 x h1) (h31 x h1)) (wp_some rfl)
    · rw [hz, l_add, i_s, Nat.add_assoc]
      exact ih (x + 1) (by omega) (by omega)
theorem r_sp15 {M : am_M} {o n e : Nat} {P : Nat → Nat → Bool} (hn : n ≤ 24) (h5 : M.1 5 o 0 29 = Int32.ofNat n) (h30 : ∀ s a, s ≤ n → a ≤ s → M.2 730 o s a = Int64.ofNat (cf P s a)) (h31 : ∀ s a, s ≤ n → a ≤ s → M.2 731 o s a = Int64.ofNat (bk P n e s a)) : ∀ (m t : Nat), t ≤ n + 1 → n + 2 ≤ m + t → wp (l_X5_spentNow_15 M o m (Int64.ofNat (sm (fun s => sm (FN P n e s) (s + 1)) t)) (Int32.ofNat t)) (fun y => y = Int64.ofNat (sm (fun s => sm (FN P n e s) (s + 1)) (n + 1))) := by
  intro m
  induction m with
  | zero => intro t h1 h2; omega
  | succ m ih =>
    intro t ht hm
    rw [l_X5_spentNow_15, h5]
    refine wp_lt (by omega) (by omega) (fun h => wp_some (by rw [show t = n + 1 from by omega])) (fun h => ?_)
    refine wp_call (r_sp26 (P := P) (e := e) hn h (fun a ha => h30 t a h ha) (fun a ha => h31 t a h ha) (sm (fun s => sm (FN P n e s) (s + 1)) t) 1000 0 (by omega) (by omega)) (fun z hz => wp_let ?_)
    rw [hz, i_s]
    exact ih (t + 1) (by omega) (by omega)
theorem FN_0 (P : Nat → Nat → Bool) (n e : Nat) : sm (fun s => sm (FN P n e s) (s + 1)) 1 = 0 := rfl
theorem r_spentNow {M : am_M} {o n e : Nat} {P : Nat → Nat → Bool} (hn : n ≤ 24) (he : e ≤ n) (hR : RM M o n P) (hend : ∀ a, P n a = true → a = e) : wp (f_X5_spentNow M o) (fun y => y.1 = Int64.ofNat (sf P (ah 1) n e)) := by
  unfold f_X5_spentNow
  refine wp_call (wp_kp (r_count (w := 0) (k := 0) (so := fun _ _ => true) hn he hR hend (fun M t a _ h1 h2 h3 => so_0 M _ _ _ _)) fr_f_X5_count) (fun y hy => ?_)
  have hRy := hR.mv hy.2 rfl (fun _ => rfl)
  refine wp_call (wp_km (r_countBack hn hRy hend) fr_f_X5_countBack) (fun N hN => ?_)
  refine wp_call (r_sp15 (P := P) (e := e) hn ((hN.2.i _ _ _ _ rfl).trans hRy.1) (fun s a hs ha => by rw [hN.2.l 730 o s a rfl, hy.1.2 s a hs ha, cq_t]) hN.1 1000 1 (by omega) (by omega)) (fun z hz => wp_some ?_)
  show z = _
  rw [hz, sf_all]
  rfl
theorem k_spent : ok_spent GT := by
  intro tr b M h
  obtain ⟨⟨D, w, hD, hR⟩, _⟩ := id h
  have hn := w.2.2.2.2.1
  have he := de_le (D := D)
  refine gt_q (v := Int64.ofNat (sf (PF D) (ah 1) (dn D) (de D))) h (wp_kp ?_ fr_f_X4_spent) rfl (fun N hk => wp_kp ?_ fr_f_X5_spent) rfl
  · unfold f_X4_spent
    exact wp_call (c_layFit w hD) (fun N hN => wp_call (wp_km (c_markAhead hN hn) fr_f_X0_markAhead) (fun N2 hN2 => wp_call (c_sumMarks (hN.mv hN2.2 rfl rfl (fun _ => rfl)) hN2.1 hn (by omega)) (fun y hy => wp_some hy)))
  · unfold f_X5_spent
    exact wp_call (r_seeAll w (hR.ag hk rfl)) (fun N hN => wp_call (r_spentNow hn he hN (PF_e D)) (fun y hy => wp_some hy))
theorem r_mean12 {M : am_M} {o n : Nat} {τ : Nat → Nat} (hn : n ≤ 24) (h5 : M.1 5 o 0 29 = Int32.ofNat n) (hT : ∀ j, j ≤ n → M.2 634 o 0 j = Int64.ofNat (τ j)) : ∀ (m t : Nat), t ≤ n + 1 → n + 2 ≤ m + t → wp (l_X5_mean_12 M o m (Int64.ofNat (sm (fun s => s * τ s) t)) (Int32.ofNat t)) (fun y => y = Int64.ofNat (sm (fun s => s * τ s) (n + 1))) := by
  intro m
  induction m with
  | zero => intro t h1 h2; omega
  | succ m ih =>
    intro t ht hm
    rw [l_X5_mean_12, h5]
    refine wp_lt (by omega) (by omega) (fun h => wp_some (by rw [show t = n + 1 from by omega])) (fun h => ?_)
    refine wp_inb (by omega) (by omega) (wp_let (wp_let ?_))
    rw [i_cl (by omega), hT t h, l_of (by omega), l_mul, l_add, i_s]
    exact ih (t + 1) (by omega) (by omega)
theorem k_mean : ok_mean GT := by
  intro tr b M h
  obtain ⟨⟨D, w, hD, hR⟩, _⟩ := id h
  have hn := w.2.2.2.2.1
  have he := de_le (D := D)
  refine gt_q (v := Int64.ofNat (sf (PF D) (us (dn D)) (dn D) (de D))) h (wp_kp ?_ fr_f_X4_mean) rfl (fun N hk => wp_kp ?_ fr_f_X5_mean) rfl
  · unfold f_X4_mean
    exact wp_call (c_layFit w hD) (fun N hN => wp_call (wp_km (c_markUnsure hN hn) fr_f_X0_markUnsure) (fun N2 hN2 => wp_call (c_sumMarks (hN.mv hN2.2 rfl rfl (fun _ => rfl)) hN2.1 hn (by omega)) (fun y hy => wp_some hy)))
  · unfold f_X5_mean
    obtain ⟨N2, e2, h5, hT, kk⟩ := r_surely w (hR.ag hk rfl)
    obtain ⟨N1, e1, e3⟩ := Option.bind_eq_some_iff.mp e2
    refine wp_be e1 (wp_be e3 (wp_call (r_mean12 hn h5 hT 1000 0 (by omega) (by omega)) (fun z hz => wp_some ?_)))
    show z = _
    rw [hz, ← tf_marks]
    show _ = Int64.ofNat (sm (fun m => m * tf (PF D) (us (dn D)) (dn D) (de D) m) (dn D + 1) + (dn D + 1) * tf (PF D) (us (dn D)) (dn D) (de D) (dn D + 1))
    rw [tf_us0 (Nat.lt_succ_self _), Nat.mul_zero]
    rfl
theorem l_ti {x : Nat} (h : x < 4611686018427387904) : (Int64.ofNat x).toInt = x := Int64.toInt_ofNat_of_lt (by omega)
theorem l_e0 {x : Nat} (h : x < 4611686018427387904) : Int64.ofNat x = 0 ↔ x = 0 := by
  rw [← Int64.toInt_inj, l_ti h, show (0 : Int64).toInt = 0 from by decide]
  omega
theorem l_le {x y : Nat} (hx : x < 4611686018427387904) (hy : y < 4611686018427387904) : Int64.ofNat x ≤ Int64.ofNat y ↔ x ≤ y := Int64.ofNat_le_iff_le (by omega) (by omega)
theorem k_price : ok_price GT := by
  intro tr b M x1 h
  obtain ⟨⟨D, w, hD, hR⟩, _⟩ := id h
  have hn := w.2.2.2.2.1
  have he := de_le (D := D)
  have hA := cf_b (P := PF D) (e := de D) hn
  by_cases hc : 0 ≤ x1.toInt ∧ x1.toInt ≤ 9
  · obtain ⟨k, hk, rfl⟩ := i_nat (m := 9) hc
    have hB := cf_b (P := cq (PF D) (ah k)) (e := de D) hn
    by_cases hz : cf (PF D) (dn D) (de D) = 0
    · refine gt_r (g := fun N => f_X5_price N 0 (Int32.ofNat k)) (v := (-5 : Int32)) (w := 5) (S4 := [(0, some 0, some 0), (0, some 0, some 1), (103, some 0, none), (105, some 0, none), (106, some 0, none)]) (S5 := [(5, some 0, some 29), (728, some 0, none), (730, some 0, none)]) (by omega) h ?_ rfl (fun N hkp => ?_) rfl
      · unfold f_X4_price
        refine wp_be (f_w M _ (m := 9) (by decide)) (wp_neg (bz_dn hc) ?_)
        refine wp_call (wp_km (c_layFit w hD) fr_f_X0_layFitting) (fun N hN => wp_call (wp_kp (c_countRows hN.1 hn (by omega)) fr_f_X0_countRows) (fun y hy => wp_let ?_))
        rw [hy.1, hz]
        exact wp_pos rfl (wp_be (x4_ref5 y.2) (wp_some ⟨y.2, keeps.trans (hN.2.mono rfl) (hy.2.mono rfl), rfl⟩))
      · unfold f_X5_price
        refine wp_be (f_i _ _ (l := 0) (m := 9) (by decide) (by decide)) (wp_neg (bz_dn hc) ?_)
        refine wp_call (wp_kp (r_waysOf w ((hR.ag hkp rfl).ag (ref4_k N 5) rfl)) fr_f_X5_waysOf) (fun y hy => wp_let ?_)
        rw [hy.1.1, hz]
        exact wp_pos (by decide) (wp_be (x5_ref5 y.2) (wp_some ⟨y.2, hy.2, rfl⟩))
    · refine gt_q (g := fun N => f_X5_price N 0 (Int32.ofNat k)) (v := ((1000 : Int64) * Int64.ofNat (cf (cq (PF D) (ah k)) (dn D) (de D)) / Int64.ofNat (cf (PF D) (dn D) (de D))).toInt32) h (S4 := [(0, some 0, some 0), (0, some 0, some 1), (103, some 0, none), (105, some 0, none), (106, some 0, none)]) (S5 := [(5, some 0, some 29), (728, some 0, none), (730, some 0, none)]) ?_ rfl (fun N hkp => ?_) rfl
      · unfold f_X4_price
        refine wp_be (f_w M _ (m := 9) (by decide)) (wp_neg (bz_dn hc) ?_)
        refine wp_call (wp_km (c_layFit w hD) fr_f_X0_layFitting) (fun N hN => wp_call (wp_kp (c_countRows hN.1 hn (by omega)) fr_f_X0_countRows) (fun y hy => wp_let ?_))
        rw [hy.1]
        refine wp_neg (fun z => hz ((i_eq (y := 0) (by omega) (by omega)).mp z)) ?_
        refine wp_call (wp_kp (c_fitAhead w ((hD.ag hN.2 rfl).ag hy.2 rfl) hk) fr_f_X4_fittingAhead) (fun z hz2 => ?_)
        rw [hz2.1, l_of (by omega), l_of (by omega)]
        exact wp_pos (fun z0 => hz ((l_e0 (by omega)).mp z0)) (wp_some ⟨rfl, keeps.trans (hN.2.mono rfl) (keeps.trans (hy.2.mono rfl) (hz2.2.mono rfl))⟩)
      · unfold f_X5_price
        refine wp_be (f_i _ _ (l := 0) (m := 9) (by decide) (by decide)) (wp_neg (bz_dn hc) ?_)
        refine wp_call (wp_kp (r_waysOf w (hR.ag hkp rfl)) fr_f_X5_waysOf) (fun y hy => wp_let ?_)
        rw [hy.1.1]
        refine wp_neg (fun z => hz ((l_e0 (by omega)).mp ((lg_cmp_eq _ _).mp z))) ?_
        refine wp_call (wp_kp (r_count (so := ah k) hn he hy.1.2 (PF_e D) (fun M t a _ h1 h2 h3 => so_1 M _ hk (by omega) h3)) fr_f_X5_count) (fun z hz2 => ?_)
        rw [hz2.1.1]
        exact wp_pos (fun z0 => hz ((l_e0 (by omega)).mp z0)) (wp_some ⟨rfl, keeps.trans (hy.2.mono rfl) (hz2.2.mono rfl)⟩)
  · refine gt_r0 (g := fun N => f_X5_price N 0 x1) (v := (-2 : Int32)) (w := 2) (by omega) h ?_ (fun N => ?_)
    · unfold f_X4_price
      exact wp_is (wp_be (f_w M _ (m := 9) (by decide)) (wp_pos (bz_n hc) (wp_be (x4_ref2 M) (wp_some rfl))))
    · unfold f_X5_price
      exact wp_is (wp_be (f_i N _ (l := 0) (m := 9) (by decide) (by decide)) (wp_pos (bz_n hc) (wp_be (x5_ref2 N) (wp_some rfl))))
/-! how often it is level -/
theorem sm_term {f : Nat → Nat} : ∀ {n i : Nat}, i < n → f i ≤ sm f n
  | 0, i, h => absurd h (Nat.not_lt_zero i)
  | n + 1, i, h => by
    rw [sm]
    by_cases hi : i = n
    · rw [hi]; omega
    · have := sm_term (f := f) (show i < n from by omega)
      omega
theorem tf_b {P mk : Nat → Nat → Bool} {n e : Nat} (hn : n ≤ 24) (m : Nat) : tf P mk n e m ≤ 16777216 := by
  by_cases h : m < n + 2
  · have h1 : tf P mk n e m ≤ sm (fun m => tf P mk n e m) (n + 2) := sm_term (f := fun m => tf P mk n e m) h
    rw [tf_sum] at h1
    exact Nat.le_trans h1 (cf_b hn)
  · rw [tf_big P mk (by omega)]
    omega
def bst (τ : Nat → Nat) : Nat → Nat
  | 0 => 0
  | m + 1 => if τ (m + 1) ≤ τ (bst τ m) then bst τ m else m + 1
theorem bst_le (τ : Nat → Nat) : ∀ m : Nat, bst τ m ≤ m
  | 0 => Nat.le_refl 0
  | m + 1 => by
    rw [bst]
    have := bst_le τ m
    split <;> omega
theorem bst_ext {τ : Nat → Nat} {n : Nat} (h : ∀ m, n < m → τ m = 0) : ∀ d : Nat, bst τ (n + d) = bst τ n
  | 0 => rfl
  | d + 1 => by
    show bst τ (n + d + 1) = _
    rw [bst, h (n + d + 1) (by omega), if_pos (Nat.zero_le _), bst_ext h d]
theorem c_often8 {M : am_M} {τ : Nat → Nat} (hb : ∀ m, τ m ≤ 16777216) (hM : ∀ x, x ≤ 24 → M.1 102 0 0 x = Int32.ofNat (τ x)) : ∀ (m j : Nat), j ≤ 24 → 25 ≤ m + j → wp (l_X4_often_8 M m (Int32.ofNat (bst τ j)) (Int32.ofNat (j + 1))) (fun y => y = Int32.ofNat (bst τ 24)) := by
  intro m
  induction m with
  | zero => intro j h1 h2; omega
  | succ m ih =>
    intro j hj hm
    have h1 := bst_le τ j
    have b1 := hb (j + 1)
    have b2 := hb (bst τ j)
    rw [l_X4_often_8]
    refine wp_lt (x := 24) (by omega) (by omega) (fun h => wp_some (by rw [show j = 24 from by omega])) (fun h => ?_)
    refine wp_inb (by omega) (by omega) (wp_inb (by omega) (by omega) ?_)
    rw [i_cl (x := j + 1) (by omega), i_cl (x := bst τ j) (by omega), hM (j + 1) (by omega), hM (bst τ j) (by omega)]
    refine wp_call (Q := fun z => z = Int32.ofNat (bst τ (j + 1))) (wp_le (by omega) (by omega) (fun h' => wp_some (by rw [bst, if_pos h'])) (fun h' => wp_some (by rw [bst, if_neg (by omega)]))) (fun z hz => wp_let ?_)
    rw [hz, i_s]
    exact ih (j + 1) (by omega) (by omega)
theorem r_often13 {M : am_M} {o n : Nat} {τ : Nat → Nat} (hn : n ≤ 24) (hb : ∀ m, τ m ≤ 16777216) (h5 : M.1 5 o 0 29 = Int32.ofNat n) (hM : ∀ x, x ≤ 24 → f_X5_levels M o (Int32.ofNat x) = some (Int64.ofNat (τ x))) : ∀ (m j : Nat), j ≤ n → n + 1 ≤ m + j → wp (l_X5_often_13 M o m (Int32.ofNat (bst τ j)) (Int32.ofNat (j + 1))) (fun y => y = Int32.ofNat (bst τ n)) := by
  intro m
  induction m with
  | zero => intro j h1 h2; omega
  | succ m ih =>
    intro j hj hm
    have h1 := bst_le τ j
    have b1 := hb (j + 1)
    have b2 := hb (bst τ j)
    rw [l_X5_often_13, h5]
    refine wp_lt (by omega) (by omega) (fun h => wp_some (by rw [show j = n from by omega])) (fun h => ?_)
    refine wp_be (hM (j + 1) (by omega)) (wp_be (hM (bst τ j) (by omega)) ?_)
    refine wp_call (Q := fun z => z = Int32.ofNat (bst τ (j + 1))) (wp_ite (fun h' => wp_some ?_) (fun h' => wp_some ?_)) (fun z hz => wp_let ?_)
    · rw [lg_cmp_le, l_le (by omega) (by omega)] at h'
      rw [bst, if_pos h']
    · rw [lg_cmp_le, l_le (by omega) (by omega)] at h'
      rw [bst, if_neg h']
    · rw [hz, i_s]
      exact ih (j + 1) (by omega) (by omega)
theorem k_often : ok_often GT := by
  intro tr b M h
  obtain ⟨⟨D, w, hD, hR⟩, _⟩ := id h
  have hn := w.2.2.2.2.1
  have he := de_le (D := D)
  refine gt_q (v := Int32.ofNat (bst (tf (PF D) mkL (dn D) (de D)) (dn D))) h (wp_kp ?_ fr_f_X4_often) rfl (fun N hk => wp_kp ?_ fr_f_X5_often) rfl
  · unfold f_X4_often
    refine wp_call (c_tallyLevel w hD) (fun N hN => wp_call (c_often8 (τ := tf (PF D) mkL (dn D) (de D)) (tf_b hn) hN 1000 0 (by omega) (by omega)) (fun z hz => wp_some ?_))
    show z = _
    have e1 := bst_ext (τ := tf (PF D) mkL (dn D) (de D)) (n := dn D) (fun m hm => tf_big0 mkL_0 hm _) (24 - dn D)
    rw [show dn D + (24 - dn D) = 24 from by omega] at e1
    rw [hz, e1]
  · unfold f_X5_often
    obtain ⟨N2, e2, hR2, hT, kk⟩ := r_moments w (hR.ag hk rfl) isMk_1 mkL_0
    obtain ⟨N1, e1, e3⟩ := Option.bind_eq_some_iff.mp e2
    exact wp_be e1 (wp_be e3 (wp_call (r_often13 (τ := tf (PF D) mkL (dn D) (de D)) hn (tf_b hn) hR2.1 (fun x hx => r_levels hn hx he hR2.1 (PF_e D) hT) 1000 0 (by omega) (by omega)) (fun z hz => wp_some hz)))
/-! half of all rows -/
theorem half_loop {M4 M5 : am_M} {o n A : Nat} {τ : Nat → Nat} (hn : n ≤ 24) (hA : A ≤ 16777216) (hs : ∀ t, sm τ t ≤ A) (ht : sm τ (n + 1) = A) (h4 : ∀ x, x ≤ 24 → M4.1 102 0 0 x = Int32.ofNat (τ x)) (h5 : ∀ j, j ≤ n → M5.2 634 o 0 j = Int64.ofNat (τ j)) : ∀ (d t : Nat), t + d = n → ∀ (m m' : Nat), d + 1 ≤ m → d + 1 ≤ m' → ∃ r, l_X4_half_36 M4 (Int32.ofNat A) m (Int32.ofNat t) (Int32.ofNat (sm τ (t + 1))) = some r ∧ l_X5_half_36 M5 o (Int64.ofNat A) m' (Int64.ofNat (sm τ (t + 1))) (Int32.ofNat t) = some r := by
  intro d
  induction d with
  | zero =>
    intro t htn m m' hm hm'
    obtain ⟨m, rfl⟩ : ∃ k, m = k + 1 := ⟨m - 1, by omega⟩
    obtain ⟨m', rfl⟩ : ∃ k, m' = k + 1 := ⟨m' - 1, by omega⟩
    have e : t = n := by omega
    subst e
    refine ⟨Int32.ofNat t, wp_is ?_, wp_is ?_⟩
    · rw [l_X4_half_36, ht, show (2 : Int32) = Int32.ofNat 2 from rfl, i_mul]
      exact wp_ite (fun _ => wp_some rfl) (fun _ => wp_le (by omega) (by omega) (fun _ => wp_some rfl) (fun h => absurd h (by omega)))
    · rw [l_X5_half_36, ht, show (2 : Int64) = Int64.ofNat 2 from rfl, l_mul]
      exact wp_pos (by rw [lg_cmp_ge, l_le (by omega) (by omega)]; omega) (wp_some rfl)
  | succ d ih =>
    intro t htn m m' hm hm'
    obtain ⟨m, rfl⟩ : ∃ k, m = k + 1 := ⟨m - 1, by omega⟩
    obtain ⟨m', rfl⟩ : ∃ k, m' = k + 1 := ⟨m' - 1, by omega⟩
    have b1 := hs (t + 1)
    by_cases hc : A ≤ 2 * sm τ (t + 1)
    · refine ⟨Int32.ofNat t, wp_is ?_, wp_is ?_⟩
      · rw [l_X4_half_36, show (2 : Int32) = Int32.ofNat 2 from rfl, i_mul]
        exact wp_ite (fun _ => wp_some rfl) (fun _ => wp_le (by omega) (by omega) (fun _ => wp_some rfl) (fun h => absurd h (by omega)))
      · rw [l_X5_half_36, show (2 : Int64) = Int64.ofNat 2 from rfl, l_mul]
        exact wp_pos (by rw [lg_cmp_ge, l_le (by omega) (by omega)]; omega) (wp_some rfl)
    · obtain ⟨r, e4, e5⟩ := ih (t + 1) (by omega) m m' (by omega) (by omega)
      refine ⟨r, wp_is ?_, wp_is ?_⟩
      · rw [l_X4_half_36, show (2 : Int32) = Int32.ofNat 2 from rfl, i_mul, i_s]
        refine wp_le (x := 24) (by omega) (by omega) (fun h => absurd h (by omega)) (fun _ => wp_le (by omega) (by omega) (fun h => absurd h hc) (fun _ => wp_let (wp_inb (by omega) (by omega) (wp_let ?_))))
        rw [i_cl (by omega), h4 (t + 1) (by omega), i_add]
        exact wp_eq e4 rfl
      · rw [l_X5_half_36, show (2 : Int64) = Int64.ofNat 2 from rfl, l_mul, i_s]
        refine wp_neg (by rw [lg_cmp_ge, l_le (by omega) (by omega)]; omega) (wp_let (wp_inb (by omega) (by omega) (wp_let ?_)))
        rw [i_cl (by omega), h5 (t + 1) (by omega), l_add]
        exact wp_eq e5 rfl
theorem us_tot {P : Nat → Nat → Bool} {n e : Nat} : sm (tf P (us n) n e) (n + 1) = cf P n e := by
  rw [← tf_sum P (us n) n e]
  show _ = sm (tf P (us n) n e) (n + 1) + tf P (us n) n e (n + 1)
  rw [tf_us0 (Nat.lt_succ_self n)]
  rfl
theorem us_all {P : Nat → Nat → Bool} {n e : Nat} {t : Nat} : sm (tf P (us n) n e) t ≤ cf P n e := by
  rw [← us_tot (P := P)]
  by_cases h : t ≤ n + 1
  · exact sm_le h
  · rw [sm_ext (n := n + 1) (m := t) (by omega) (fun a h1 h2 => tf_us0 (by omega))]
    exact Nat.le_refl _
theorem k_half : ok_half GT := by
  intro tr b M h
  obtain ⟨⟨D, w, hD, hR⟩, _⟩ := id h
  have hn := w.2.2.2.2.1
  have he := de_le (D := D)
  have hA := cf_b (P := PF D) (e := de D) hn
  have tot : sm (fun i => if 0 ≤ i then tf (PF D) (us (dn D)) (dn D) (de D) i else 0) 25 = cf (PF D) (dn D) (de D) := by
    rw [← us_tot, ← sm_ext (f := tf (PF D) (us (dn D)) (dn D) (de D)) (n := dn D + 1) (m := 25) (by omega) (fun a h1 h2 => tf_us0 (by omega))]
    exact sm_congr (fun i _ => if_pos (Nat.zero_le i))
  by_cases hz : cf (PF D) (dn D) (de D) = 0
  · refine gt_r (g := fun N => f_X5_half N 0) (v := (-5 : Int32)) (w := 5) (S4 := [(0, some 0, some 0), (0, some 0, some 1), (102, some 0, none), (103, some 0, none), (104, some 0, none), (107, some 0, none)]) (S5 := [(5, some 0, some 29), (728, some 0, none), (730, some 0, none)]) (by omega) h ?_ rfl (fun N hkp => ?_) rfl
    · unfold f_X4_half
      refine wp_call (wp_km (c_tallySure w hD) fr_f_X4_tallySure) (fun N hN => wp_be (c_tallyFrom (x := 0) (by omega) hN.1) ?_)
      rw [tot, hz]
      exact wp_pos rfl (wp_be (x4_ref5 N) (wp_some ⟨N, hN.2, rfl⟩))
    · unfold f_X5_half
      refine wp_call (wp_kp (r_waysOf w ((hR.ag hkp rfl).ag (ref4_k N 5) rfl)) fr_f_X5_waysOf) (fun y hy => wp_let ?_)
      rw [hy.1.1, hz]
      exact wp_pos (by decide) (wp_be (x5_ref5 y.2) (wp_some ⟨y.2, hy.2, rfl⟩))
  · obtain ⟨N4, e4, hN4, k4⟩ := wp_km (c_tallySure w hD) fr_f_X4_tallySure
    obtain ⟨y5, e5, hy5, k5⟩ := wp_kp (r_waysOf w (hR.ag k4 rfl)) fr_f_X5_waysOf
    obtain ⟨N6, e6, hN6, k6⟩ := wp_km (r_findSure w.H ((hR.ag k4 rfl).ag k5 rfl).H hy5.2 (PF_e D)) fr_f_X5_findSure
    obtain ⟨r, l4, l5⟩ := half_loop (o := 0) hn hA (fun t => us_all) us_tot hN4 hN6 (dn D) 0 (by omega) 1000 1000 (by omega) (by omega)
    refine ⟨(r, N4), (r, N6), wp_is ?_, wp_is ?_, rfl, GTw.ag (GTw.ag (GTw.ag h k4 rfl) k5 rfl) k6 rfl⟩
    · unfold f_X4_half
      refine wp_be e4 (wp_be (c_tallyFrom (x := 0) (by omega) hN4) ?_)
      rw [tot]
      refine wp_neg (fun z => hz ((i_eq (y := 0) (by omega) (by omega)).mp z)) (wp_let ?_)
      rw [show (0 : Int32).toNatClampNeg = 0 from rfl, hN4 0 (by omega)]
      rw [show sm (tf (PF D) (us (dn D)) (dn D) (de D)) (0 + 1) = tf (PF D) (us (dn D)) (dn D) (de D) 0 from Nat.zero_add _] at l4
      exact wp_be l4 (wp_some rfl)
    · unfold f_X5_half
      refine wp_be e5 (wp_let ?_)
      rw [hy5.1]
      refine wp_neg (fun z => hz ((l_e0 (by omega)).mp ((lg_cmp_eq _ _).mp z))) (wp_be e6 (wp_let ?_))
      rw [show (0 : Int32).toNatClampNeg = 0 from rfl, hN6 0 (by omega), Int64.zero_add]
      rw [show sm (tf (PF D) (us (dn D)) (dn D) (de D)) (0 + 1) = tf (PF D) (us (dn D)) (dn D) (de D) 0 from Nat.zero_add _] at l5
      exact wp_be l5 (wp_some rfl)
/-! whether it is sure now -/
theorem c_marked {M : am_M} {n t a : Nat} {mk : Nat → Nat → Bool} (hn : n ≤ 24) (h0 : M.1 0 0 0 0 = Int32.ofNat n) (hm : MK M n mk) (ht : t ≤ n) (ha : a ≤ 24) : f_X0_isMarked M (Int32.ofNat t) (Int32.ofNat a) = some (bz (mk t a)) := by
  unfold f_X0_isMarked
  rw [h0, i_cl (x := t) (by omega)]
  refine wp_is (wp_be (f_w M _ (m := n) (i_ti (by omega))) (wp_neg (bz_dn (by rw [i_ti (by omega)]; omega)) (wp_be (f_w M _ (m := 24) (by decide)) (wp_neg (bz_dn (by rw [i_ti (by omega)]; omega)) (wp_inb (by omega) (by omega) ?_)))))
  rw [← hm t a ht ha]
  exact wp_bt1 (by omega) (fun h => wp_some (by rw [h]; rfl)) (fun h => wp_some (by rw [h]; rfl))
theorem k_isSure : ok_isSure GT := by
  intro tr b M h
  obtain ⟨⟨D, w, hD, hR⟩, _⟩ := id h
  have hn := w.2.2.2.2.1
  have he := de_le (D := D)
  have hr := w.2.2.2.2.2.1
  have ha := sm_le1 w.2.2.2.2.2.2.1 (dr D) (Nat.le_refl _)
  have hp := w.2.2.2.2.2.2.2.1 (dr D) (Nat.le_refl _)
  refine gt_q (v := bz (!us (dn D) (dr D) (sm (dS D) (dr D)))) h (wp_kp ?_ fr_f_X4_isSure) rfl (fun N hk => wp_kp ?_ fr_f_X5_isSure) rfl
  · unfold f_X4_isSure
    refine wp_call (wp_km (c_layHeaps (by decide) w.1 hn (hD.HO w)) fr_f_X0_layHeaps) (fun N hN => wp_call (wp_km (c_markUnsure (n := dn D) hN.1 hn) fr_f_X0_markUnsure) (fun N2 hN2 => ?_))
    have d2 := (hD.ag hN.2 rfl).ag hN2.2 rfl
    rw [d2.2.2.2.2.1, d2.2.2.2.2.2.1]
    refine wp_be (c_marked hn ((hN2.2.i _ _ _ _ rfl).trans hN.1.1) hN2.1 hr (by omega)) (wp_bz (fun hu => wp_some ?_) (fun hu => wp_some ?_))
    · show (1 : Int32) = _
      rw [hu]
      rfl
    · show (0 : Int32) = _
      rw [hu]
      rfl
  · unfold f_X5_isSure
    have hRN := hR.ag hk rfl
    obtain ⟨q1, q2, q3, q4, q5⟩ := id hRN
    refine wp_be (r_all w.H hRN.H) (wp_let (wp_be (r_allA w.H (hRN.H.cong (by rw [si_j (by decide)]) (fun i => by rw [si_k (by decide)]) (fun i => by rw [si_k (by decide)]) (fun i => by rw [si_k (by decide)]))) ?_))
    refine wp_call (r_same hn (by omega) (by rw [am_si_self])) (fun z hz => ?_)
    subst hz
    rw [si_j (show 16 ≠ 29 from by decide), q3, am_si_self]
    refine wp_be (r_readA (r := dr D) (S := dS D) (by omega) (Nat.le_refl _) (fun i hi => by rw [si_k (by decide)]; exact q4 i hi)) (wp_be (r_sureAt (by rw [am_si_self]) hn hr ha) ?_)
    refine wp_bz (fun hs => ?_) (fun hs => wp_some ?_)
    · refine wp_bz (fun hsame => wp_some ?_) (fun hsame => wp_ieq (by omega) (by omega) (fun e => wp_some ?_) (fun e => wp_some ?_))
      · show (0 : Int32) = _
        by_cases e : dr D = dn D
        · rw [e] at hp hs
          have := DP_e D _ hp
          rw [decide_eq_false_iff_not] at hs hsame
          omega
        · rw [us_d hr e hs]
          rfl
      · show (1 : Int32) = _
        rw [e, us_n]
        rfl
      · show (0 : Int32) = _
        rw [us_d hr e hs]
        rfl
    · show (1 : Int32) = _
      rw [us_e hs]
      rfl
