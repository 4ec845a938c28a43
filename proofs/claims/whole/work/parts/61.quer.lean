/-! questions about rows -/
theorem cq_gen {P so : Nat → Nat → Bool} {n e : Nat} : cf (fun s a => P s a && (!decide (1 ≤ s ∧ s ≤ n ∧ s ≤ n) || so s a)) n e = cf (cq P so) n e := cf_congr (fun s b h1 _ _ => by
  unfold cq
  by_cases h0 : s = 0
  · rw [decide_eq_true h0, decide_eq_false (by omega)]
    simp
  · rw [decide_eq_false h0, decide_eq_true (by omega)]
    simp)
theorem PF_e (D : dd) (a : Nat) (h : PF D (dn D) a = true) : a = de D := PF_end D h
section QU
variable {tr b : Bool} {M : am_M}
theorem k_rows : ok_rows GT := by
  intro tr b M h
  obtain ⟨⟨D, w, hD, hR⟩, _⟩ := id h
  have hn := w.2.2.2.2.1
  have he := de_le (D := D)
  refine gt_q (v := Int32.ofNat (cf (DP D) (dn D) (de D))) h (wp_kp ?_ fr_f_X4_rows) rfl (fun N hk => wp_kp ?_ fr_f_X5_rows) rfl
  · unfold f_X4_rows
    exact wp_call (c_layHeaps (by decide) w.1 hn (hD.HO w)) (fun N hN => wp_call (c_countRows (P := DP D) hN hn (show de D ≤ 24 from by omega)) (fun y hy => wp_some hy))
  · unfold f_X5_rows
    refine wp_call (r_seeHeaps w.H (hR.ag hk rfl).H) (fun N hN => wp_call (r_count (w := 0) (k := 0) (so := fun _ _ => true) hn he hN (DP_e D) (fun M t a _ h1 h2 h3 => so_0 M _ _ _ _)) (fun y hy => wp_some ?_))
    show y.1.toInt32 = _
    rw [hy.1, cq_t, l_32]
theorem c_ways {D : dd} (w : WF D) (hD : DR M 0 D) : wp (f_X4_ways M) (fun y => y.1 = Int32.ofNat (cf (PF D) (dn D) (de D))) := by
  have hn := w.2.2.2.2.1
  have he := de_le (D := D)
  unfold f_X4_ways
  exact wp_call (c_layFit w hD) (fun N hN => wp_call (c_countRows hN hn (by omega)) (fun y hy => wp_some hy))
theorem r_waysOf {o : Nat} {D : dd} (w : WF D) (hR : RF M o D) : wp (f_X5_waysOf M o) (fun y => y.1 = Int64.ofNat (cf (PF D) (dn D) (de D)) ∧ RM y.2 o (dn D) (PF D)) := by
  have hn := w.2.2.2.2.1
  have he := de_le (D := D)
  unfold f_X5_waysOf
  refine wp_call (r_seeAll w hR) (fun N hN => wp_call (wp_kp (r_count (w := 0) (k := 0) (so := fun _ _ => true) hn he hN (PF_e D) (fun M t a _ h1 h2 h3 => so_0 M _ _ _ _)) fr_f_X5_count) (fun y hy => wp_some ⟨?_, hN.mv hy.2 rfl (fun _ => rfl)⟩))
  show y.1 = _
  rw [hy.1.1, cq_t]
theorem k_ways : ok_ways GT := by
  intro tr b M h
  obtain ⟨⟨D, w, hD, hR⟩, _⟩ := id h
  refine gt_q (v := Int32.ofNat (cf (PF D) (dn D) (de D))) h (wp_kp (c_ways w hD) fr_f_X4_ways) rfl (fun N hk => wp_kp ?_ fr_f_X5_ways) rfl
  unfold f_X5_ways
  refine wp_call (r_waysOf w (hR.ag hk rfl)) (fun y hy => wp_some ?_)
  show y.1.toInt32 = _
  rw [hy.1, l_32]
theorem c_fitAhead {D : dd} {k : Nat} (w : WF D) (hD : DR M 0 D) (hk : k ≤ 9) : wp (f_X4_fittingAhead M (Int32.ofNat k)) (fun y => y.1 = Int32.ofNat (cf (cq (PF D) (ah k)) (dn D) (de D))) := by
  have hn := w.2.2.2.2.1
  have he := de_le (D := D)
  unfold f_X4_fittingAhead
  refine wp_call (c_layFit w hD) (fun N hN => ?_)
  rw [hN.1]
  refine wp_call (c_keepAhead (u := 1) hN hn hk (by omega) hn) (fun N2 hN2 => wp_call (c_countRows hN2 hn (by omega)) (fun y hy => wp_some ?_))
  show y.1 = _
  rw [hy, cq_gen]
theorem r_fits {o : Nat} {D : dd} {x k : Int32} {so : Nat → Nat → Bool} (w : WF D) (hR : RF M o D) (hso : ∀ (M : am_M) (t a : Nat), M.1 5 o 0 29 = Int32.ofNat (dn D) → 1 ≤ t → t ≤ dn D → a ≤ t → f_X5_isSo M o x k (Int32.ofNat t) (Int32.ofNat a) = some (bz (so t a))) : wp (f_X5_countFits M o x k) (fun y => y.1 = Int64.ofNat (cf (cq (PF D) so) (dn D) (de D)) ∧ RM y.2 o (dn D) (PF D)) := by
  have hn := w.2.2.2.2.1
  have he := de_le (D := D)
  unfold f_X5_countFits
  exact wp_call (r_seeAll w hR) (fun N hN => wp_call (wp_kp (r_count (so := so) hn he hN (PF_e D) hso) fr_f_X5_count) (fun y hy => wp_some ⟨hy.1.1, hN.mv hy.2 rfl (fun _ => rfl)⟩))
theorem k_ahead : ok_ahead GT := by
  intro tr b M x1 h
  obtain ⟨⟨D, w, hD, hR⟩, _⟩ := id h
  have hn := w.2.2.2.2.1
  by_cases hc : 0 ≤ x1.toInt ∧ x1.toInt ≤ 9
  · obtain ⟨k, hk, rfl⟩ := i_nat (m := 9) hc
    refine gt_q (g := fun N => f_X5_ahead N 0 (Int32.ofNat k)) (v := Int32.ofNat (cf (cq (PF D) (ah k)) (dn D) (de D))) h ?_ (show dj [(0, some 0, some 0), (0, some 0, some 1), (103, some 0, none), (105, some 0, none), (106, some 0, none)] tAll = true from rfl) (fun N hkp => ?_) (show dj [(5, some 0, some 29), (728, some 0, none), (730, some 0, none)] tAll = true from rfl)
    · unfold f_X4_ahead
      exact wp_be (f_w M _ (m := 9) (by decide)) (wp_neg (bz_dn hc) (wp_call (wp_kp (c_fitAhead w hD hk) fr_f_X4_fittingAhead) (fun y hy => wp_some hy)))
    · unfold f_X5_ahead
      refine wp_be (f_i N _ (l := 0) (m := 9) (by decide) (by decide)) (wp_neg (bz_dn hc) (wp_call (wp_kp (r_fits (so := ah k) w (hR.ag hkp rfl) (fun M t a _ h1 h2 h3 => so_1 M _ hk (by omega) h3)) fr_f_X5_countFits) (fun y hy => wp_some ⟨?_, hy.2⟩)))
      show y.1.toInt32 = _
      rw [hy.1.1, l_32]
  · refine gt_r0 (g := fun N => f_X5_ahead N 0 x1) (v := (-2 : Int32)) (w := 2) (by omega) h ?_ (fun N => ?_)
    · unfold f_X4_ahead
      exact wp_is (wp_be (f_w M _ (m := 9) (by decide)) (wp_pos (bz_n hc) (wp_be (x4_ref2 M) (wp_some rfl))))
    · unfold f_X5_ahead
      exact wp_is (wp_be (f_i N _ (l := 0) (m := 9) (by decide) (by decide)) (wp_pos (bz_n hc) (wp_be (x5_ref2 N) (wp_some rfl))))
theorem k_never : ok_never GT := by
  intro tr b M h
  obtain ⟨⟨D, w, hD, hR⟩, _⟩ := id h
  have hn := w.2.2.2.2.1
  have he := de_le (D := D)
  refine gt_q (v := Int32.ofNat (cf (cq (PF D) (fun t a => decide (t ≤ 2 * a))) (dn D) (de D))) h (wp_kp ?_ fr_f_X4_never) rfl (fun N hk => wp_kp ?_ fr_f_X5_never) rfl
  · unfold f_X4_never
    refine wp_call (c_layFit w hD) (fun N hN => ?_)
    rw [hN.1]
    refine wp_call (c_keepNotBehind (u := 1) hN hn (by omega) hn) (fun N2 hN2 => wp_call (c_countRows hN2 hn (by omega)) (fun y hy => wp_some ?_))
    show y.1 = _
    rw [hy]
    exact congrArg Int32.ofNat (cq_gen (so := fun t a => decide (t ≤ 2 * a)))
  · unfold f_X5_never
    refine wp_call (r_fits (so := fun t a => decide (t ≤ 2 * a)) w (hR.ag hk rfl) (fun M t a _ h1 h2 h3 => so_2 M _ (by omega) h3)) (fun y hy => wp_some ?_)
    show y.1.toInt32 = _
    rw [hy.1, l_32]
/-! tallies -/
def mkL (t a : Nat) : Bool := decide (0 < t ∧ 2 * a = t)
theorem mkL_0 (a : Nat) : mkL 0 a = false := by
  unfold mkL
  rw [decide_eq_false_iff_not]
  omega
theorem c_tallyLevel {D : dd} (w : WF D) (hD : DR M 0 D) : wp (f_X4_tallyLevel M) (fun N => ∀ x, x ≤ 24 → N.1 102 0 0 x = Int32.ofNat (tf (PF D) mkL (dn D) (de D) x)) := by
  have hn := w.2.2.2.2.1
  have he := de_le (D := D)
  unfold f_X4_tallyLevel
  refine wp_call (c_layFit w hD) (fun N hN => wp_call (wp_km (c_markLevel hN hn) fr_f_X0_markLevel) (fun N2 hN2 => wp_call (c_tallyMarks (mk := mkL) (hN.mv hN2.2 rfl rfl (fun _ => rfl)) hN2.1 hn (by omega)) (fun N3 hN3 => wp_some hN3)))
theorem c_tallySure {D : dd} (w : WF D) (hD : DR M 0 D) : wp (f_X4_tallySure M) (fun N => ∀ x, x ≤ 24 → N.1 102 0 0 x = Int32.ofNat (tf (PF D) (us (dn D)) (dn D) (de D) x)) := by
  have hn := w.2.2.2.2.1
  have he := de_le (D := D)
  unfold f_X4_tallySure
  refine wp_call (c_layFit w hD) (fun N hN => wp_call (wp_km (c_markUnsure hN hn) fr_f_X0_markUnsure) (fun N2 hN2 => wp_call (c_tallyMarks (mk := us (dn D)) (hN.mv hN2.2 rfl rfl (fun _ => rfl)) hN2.1 hn (by omega)) (fun N3 hN3 => wp_some hN3)))
theorem r_moments {o : Nat} {D : dd} {x1 : Int32} {mk : Nat → Nat → Bool} (w : WF D) (hR : RF M o D) (hmk : isMk x1 mk) (h0 : ∀ a, mk 0 a = false) : wp ((f_X5_seeAll M o).bind (fun r4 => f_X5_countMoments r4 o x1)) (fun N => RM N o (dn D) (PF D) ∧ (∀ c y, c ≤ 24 → y ≤ 24 → N.2 732 o c y = Int64.ofNat (tf (PF D) mk (dn D) c y)) ∧ keeps [(5, some o, some 29), (728, some o, none), (732, some o, none), (733, some o, none)] M N) := by
  have hn := w.2.2.2.2.1
  refine wp_call (wp_km (r_seeAll w hR) fr_f_X5_seeAll) (fun N hN => wp_mono (wp_km (r_countMoments hn hN.1 hmk h0) fr_f_X5_countMoments) (fun N2 hN2 => ⟨hN.1.mv hN2.2 rfl (fun _ => rfl), hN2.1, keeps.trans (hN.2.mono ?_) (hN2.2.mono ?_)⟩))
  · simp [kpSub, Nat.beq_refl]
  · simp [kpSub, Nat.beq_refl]
theorem k_level : ok_level GT := by
  intro tr b M x1 h
  obtain ⟨⟨D, w, hD, hR⟩, _⟩ := id h
  have hn := w.2.2.2.2.1
  have he := de_le (D := D)
  by_cases hc : 0 ≤ x1.toInt ∧ x1.toInt ≤ 24
  · obtain ⟨k, hk, rfl⟩ := i_nat (m := 24) hc
    refine gt_q (g := fun N => f_X5_level N 0 (Int32.ofNat k)) (v := Int32.ofNat (tf (PF D) mkL (dn D) (de D) k)) h (S4 := [(0, some 0, some 0), (0, some 0, some 1), (102, some 0, none), (103, some 0, none), (104, some 0, none), (107, some 0, none)]) (S5 := [(5, some 0, some 29), (728, some 0, none), (732, some 0, none), (733, some 0, none)]) ?_ rfl (fun N hkp => ?_) rfl
    · unfold f_X4_level
      refine wp_be (f_w M _ (m := 24) (by decide)) (wp_neg (bz_dn hc) (wp_call (wp_km (c_tallyLevel w hD) fr_f_X4_tallyLevel) (fun N hN => wp_inb (by omega) (by omega) (wp_some ⟨?_, hN.2⟩))))
      show N.1 102 0 0 (Int32.ofNat k).toNatClampNeg = _
      rw [i_cl (by omega), hN.1 k hk]
    · unfold f_X5_level
      refine wp_be (f_i N _ (l := 0) (m := 24) (by decide) (by decide)) (wp_neg (bz_dn hc) ?_)
      obtain ⟨N2, e2, hR2, hT, kk⟩ := r_moments w (hR.ag hkp rfl) isMk_1 mkL_0
      obtain ⟨N1, e1, e3⟩ := Option.bind_eq_some_iff.mp e2
      refine wp_be e1 (wp_be e3 (wp_be (r_levels hn hk he hR2.1 (PF_e D) hT) (wp_some ⟨?_, kk⟩)))
      show (Int64.ofNat _).toInt32 = _
      rw [l_32]
      rfl
  · refine gt_r0 (g := fun N => f_X5_level N 0 x1) (v := (-2 : Int32)) (w := 2) (by omega) h ?_ (fun N => ?_)
    · unfold f_X4_level
      exact wp_is (wp_be (f_w M _ (m := 24) (by decide)) (wp_pos (bz_n hc) (wp_be (x4_ref2 M) (wp_some rfl))))
    · unfold f_X5_level
      exact wp_is (wp_be (f_i N _ (l := 0) (m := 24) (by decide) (by decide)) (wp_pos (bz_n hc) (wp_be (x5_ref2 N) (wp_some rfl))))
theorem tf_us0 {P : Nat → Nat → Bool} {n e m : Nat} (h : n < m) : tf P (us n) n e m = 0 := by
  rw [tf_mono (us_1 n) (us_2 n), if_neg (by omega), cf_no (P := qu P (us n)) (by unfold qu; rw [us_n]; simp), ite_self]
theorem r_surely {o : Nat} {D : dd} (w : WF D) (hR : RF M o D) : wp ((f_X5_seeAll M o).bind (fun r4 => f_X5_findSure r4 o)) (fun N => N.1 5 o 0 29 = Int32.ofNat (dn D) ∧ (∀ j, j ≤ dn D → N.2 634 o 0 j = Int64.ofNat (tf (PF D) (us (dn D)) (dn D) (de D) j)) ∧ keeps [(5, some o, some 29), (634, some o, none), (728, some o, none), (730, some o, none), (731, some o, none)] M N) := by
  have hn := w.2.2.2.2.1
  refine wp_call (wp_km (r_seeAll w hR) fr_f_X5_seeAll) (fun N hN => wp_mono (wp_km (r_findSure w.H (hR.H.mv hN.2 rfl (fun _ => rfl) (fun _ => rfl) (fun _ => rfl)) hN.1 (PF_e D)) fr_f_X5_findSure) (fun N2 hN2 => ⟨(hN2.2.i _ _ _ _ rfl).trans hN.1.1, hN2.1, keeps.trans (hN.2.mono ?_) (hN2.2.mono ?_)⟩))
  · simp [kpSub, Nat.beq_refl]
  · simp [kpSub, Nat.beq_refl]
theorem k_sure : ok_sure GT := by
  intro tr b M x1 h
  obtain ⟨⟨D, w, hD, hR⟩, _⟩ := id h
  have hn := w.2.2.2.2.1
  have he := de_le (D := D)
  by_cases hc : 0 ≤ x1.toInt ∧ x1.toInt ≤ 24
  · obtain ⟨k, hk, rfl⟩ := i_nat (m := 24) hc
    refine gt_q (g := fun N => f_X5_sure N 0 (Int32.ofNat k)) (v := Int32.ofNat (tf (PF D) (us (dn D)) (dn D) (de D) k)) h (S4 := [(0, some 0, some 0), (0, some 0, some 1), (102, some 0, none), (103, some 0, none), (104, some 0, none), (107, some 0, none)]) (S5 := [(5, some 0, some 29), (634, some 0, none), (728, some 0, none), (730, some 0, none), (731, some 0, none)]) ?_ rfl (fun N hkp => ?_) rfl
    · unfold f_X4_sure
      refine wp_be (f_w M _ (m := 24) (by decide)) (wp_neg (bz_dn hc) (wp_call (wp_km (c_tallySure w hD) fr_f_X4_tallySure) (fun N hN => wp_inb (by omega) (by omega) (wp_some ⟨?_, hN.2⟩))))
      show N.1 102 0 0 (Int32.ofNat k).toNatClampNeg = _
      rw [i_cl (by omega), hN.1 k hk]
    · unfold f_X5_sure
      refine wp_be (f_i N _ (l := 0) (m := 24) (by decide) (by decide)) (wp_neg (bz_dn hc) ?_)
      obtain ⟨N2, e2, h5, hT, kk⟩ := r_surely w (hR.ag hkp rfl)
      obtain ⟨N1, e1, e3⟩ := Option.bind_eq_some_iff.mp e2
      refine wp_be e1 (wp_be e3 ?_)
      rw [h5]
      refine wp_le (by omega) (by omega) (fun hle => wp_inb (by omega) (by omega) (wp_some ⟨?_, kk⟩)) (fun hgt => wp_some ⟨?_, kk⟩)
      · show (N2.2 634 0 0 (Int32.ofNat k).toNatClampNeg).toInt32 = _
        rw [i_cl (by omega), hT k hle, l_32]
      · show (0 : Int32) = _
        rw [tf_us0 hgt]
        rfl
  · refine gt_r0 (g := fun N => f_X5_sure N 0 x1) (v := (-2 : Int32)) (w := 2) (by omega) h ?_ (fun N => ?_)
    · unfold f_X4_sure
      exact wp_is (wp_be (f_w M _ (m := 24) (by decide)) (wp_pos (bz_n hc) (wp_be (x4_ref2 M) (wp_some rfl))))
    · unfold f_X5_sure
      exact wp_is (wp_be (f_i N _ (l := 0) (m := 24) (by decide) (by decide)) (wp_pos (bz_n hc) (wp_be (x5_ref2 N) (wp_some rfl))))
end QU
