/-! more questions about rows -/
theorem beq_d (s t : Nat) : (s == t) = decide (s = t) := by
  by_cases h : s = t
  · subst h
    simp
  · rw [decide_eq_false h]
    simp [h]
theorem so_thr {P : Nat → Nat → Bool} {n e t a : Nat} (ht : t ≤ n) : cf (fun s c => P s c && (!decide (s = t) || decide (c = a))) n e = if a ≤ t then cf P t a * bk P n e t a else 0 := by
  by_cases ha : a ≤ t
  · rw [if_pos ha, cf_bk, ← cf_through P e ht ha]
    refine cf_congr (fun s c _ _ _ => ?_)
    rw [beq_d, beq_d]
  · rw [if_neg ha, ← fb _ e ht]
    refine sm_zero (fun c hc => ?_)
    rw [cf_no, Nat.zero_mul]
    rw [decide_eq_true (rfl : t = t), decide_eq_false (show ¬ c = a from by omega)]
    simp
theorem k_soFar : ok_soFar GT := by
  intro tr b M x1 x2 h
  obtain ⟨⟨D, w, hD, hR⟩, _⟩ := id h
  have hn := w.2.2.2.2.1
  have he := de_le (D := D)
  by_cases hc : 0 ≤ x1.toInt ∧ x1.toInt ≤ 24
  · by_cases hc2 : 0 ≤ x2.toInt ∧ x2.toInt ≤ 24
    · obtain ⟨k, hk, rfl⟩ := i_nat (m := 24) hc
      obtain ⟨k2, hk2, rfl⟩ := i_nat (m := 24) hc2
      refine gt_q (g := fun N => f_X5_soFar N 0 (Int32.ofNat k) (Int32.ofNat k2)) (v := Int32.ofNat (if k ≤ dn D ∧ k2 ≤ k then cf (PF D) k k2 * bk (PF D) (dn D) (de D) k k2 else 0)) h (S4 := [(0, some 0, some 0), (0, some 0, some 1), (103, some 0, none), (105, some 0, none), (106, some 0, none)]) (S5 := [(5, some 0, some 29), (728, some 0, none), (730, some 0, none), (731, some 0, none)]) ?_ rfl (fun N hkp => ?_) rfl
      · unfold f_X4_soFar
        refine wp_be (f_w M _ (m := 24) (by decide)) (wp_neg (bz_dn hc) (wp_be (f_w M _ (m := 24) (by decide)) (wp_neg (bz_dn hc2) ?_)))
        refine wp_call (wp_km (c_layFit w hD) fr_f_X0_layFitting) (fun N hN => ?_)
        rw [hN.1.1]
        refine wp_le (by omega) (by omega) (fun hle => ?_) (fun hgt => wp_some ⟨?_, hN.2.mono rfl⟩)
        · refine wp_call (wp_km (c_keepAt hN.1 hn (by omega) (by omega)) fr_f_X0_keepAt) (fun N2 hN2 => wp_call (wp_kp (c_countRows hN2.1 hn (by omega)) fr_f_X0_countRows) (fun y hy => wp_some ⟨?_, keeps.trans (hN.2.mono rfl) (keeps.trans (hN2.2.mono rfl) (hy.2.mono rfl))⟩))
          show y.1 = _
          rw [hy.1, so_thr hle]
          by_cases h2 : k2 ≤ k
          · rw [if_pos h2, if_pos ⟨hle, h2⟩]
          · rw [if_neg h2, if_neg (fun z => h2 z.2)]
        · show (0 : Int32) = _
          rw [if_neg (by omega)]
          rfl
      · unfold f_X5_soFar
        refine wp_be (f_i N _ (l := 0) (m := 24) (by decide) (by decide)) (wp_neg (bz_dn hc) (wp_be (f_i N _ (l := 0) (m := 24) (by decide) (by decide)) (wp_neg (bz_dn hc2) ?_)))
        refine wp_call (wp_km (r_seeAll w (hR.ag hkp rfl)) fr_f_X5_seeAll) (fun N1 h1 => ?_)
        refine wp_call (wp_kp (r_count (w := 0) (k := 0) (so := fun _ _ => true) hn he h1.1 (PF_e D) (fun M t a _ h1 h2 h3 => so_0 M _ _ _ _)) fr_f_X5_count) (fun y hy => ?_)
        have hRy := h1.1.mv hy.2 rfl (fun _ => rfl)
        refine wp_call (wp_km (r_countBack hn hRy (PF_e D)) fr_f_X5_countBack) (fun N3 h3 => ?_)
        have kk : keeps [(5, some 0, some 29), (728, some 0, none), (730, some 0, none), (731, some 0, none)] N N3 := keeps.trans (h1.2.mono rfl) (keeps.trans (hy.2.mono rfl) (h3.2.mono rfl))
        rw [(h3.2.i 5 0 0 29 rfl).trans hRy.1]
        refine wp_lt (by omega) (by omega) (fun hgt => wp_some ⟨?_, kk⟩) (fun hle => ?_)
        · show (0 : Int32) = _
          rw [if_neg (by omega)]
          rfl
        · refine wp_le (by omega) (by omega) (fun h2 => ?_) (fun h2 => wp_some ⟨?_, kk⟩)
          · refine wp_be (r_through (u := cf (PF D) k k2) (v := bk (PF D) (dn D) (de D) k k2) hn hle h2 ?_ (h3.1 k k2 hle h2)) (wp_some ⟨?_, kk⟩)
            · rw [h3.2.l 730 0 k k2 rfl, hy.1.2 k k2 hle h2, cq_t]
            · show (Int64.ofNat _).toInt32 = _
              rw [l_32, if_pos ⟨hle, h2⟩]
          · show (0 : Int32) = _
            rw [if_neg (by omega)]
            rfl
    · refine gt_r0 (g := fun N => f_X5_soFar N 0 x1 x2) (v := (-2 : Int32)) (w := 2) (by omega) h ?_ (fun N => ?_)
      · unfold f_X4_soFar
        exact wp_is (wp_be (f_w M _ (m := 24) (by decide)) (wp_neg (bz_dn hc) (wp_be (f_w M _ (m := 24) (by decide)) (wp_pos (bz_n hc2) (wp_be (x4_ref2 M) (wp_some rfl))))))
      · unfold f_X5_soFar
        exact wp_is (wp_be (f_i N _ (l := 0) (m := 24) (by decide) (by decide)) (wp_neg (bz_dn hc) (wp_be (f_i N _ (l := 0) (m := 24) (by decide) (by decide)) (wp_pos (bz_n hc2) (wp_be (x5_ref2 N) (wp_some rfl))))))
  · refine gt_r0 (g := fun N => f_X5_soFar N 0 x1 x2) (v := (-2 : Int32)) (w := 2) (by omega) h ?_ (fun N => ?_)
    · unfold f_X4_soFar
      exact wp_is (wp_be (f_w M _ (m := 24) (by decide)) (wp_pos (bz_n hc) (wp_be (x4_ref2 M) (wp_some rfl))))
    · unfold f_X5_soFar
      exact wp_is (wp_be (f_i N _ (l := 0) (m := 24) (by decide) (by decide)) (wp_pos (bz_n hc) (wp_be (x5_ref2 N) (wp_some rfl))))
/-! the last moment at which it is level -/
def nl (k t a : Nat) : Bool := decide (t ≤ k ∨ 2 * a ≠ t)
theorem last_eq {P : Nat → Nat → Bool} {n e t : Nat} (ht : t ≤ n) (h1 : 1 ≤ t) : cf (cq P (nl t)) n e = cf (cq P (nl (t - 1))) n e + cf (fun s a => P s a && (!decide (s = t) || decide (2 * a = s)) && (!decide (t + 1 ≤ s ∧ s ≤ n ∧ s ≤ n) || !decide (2 * a = s))) n e := by
  have e1 : cf (fun s a => P s a && (!decide (s = t) || decide (2 * a = s)) && (!decide (t + 1 ≤ s ∧ s ≤ n ∧ s ≤ n) || !decide (2 * a = s))) n e = cf (fun s a => P s a && (if s = t then decide (2 * a = s) else nl t s a)) n e := cf_congr (fun s a hs _ _ => by
    by_cases hst : s = t
    · rw [if_pos hst, decide_eq_true hst, decide_eq_false (show ¬ (t + 1 ≤ s ∧ s ≤ n ∧ s ≤ n) from by omega)]
      simp
    · rw [if_neg hst, decide_eq_false hst]
      unfold nl
      by_cases hlt : s < t
      · rw [decide_eq_false (show ¬ (t + 1 ≤ s ∧ s ≤ n ∧ s ≤ n) from by omega), decide_eq_true (show s ≤ t ∨ 2 * a ≠ s from by omega)]
        simp
      · rw [decide_eq_true (show t + 1 ≤ s ∧ s ≤ n ∧ s ≤ n from by omega), show decide (s ≤ t ∨ 2 * a ≠ s) = !decide (2 * a = s) from by rw [← decide_not, decide_eq_decide]; omega]
        simp)
  rw [e1]
  refine cf_split (t := t) (fun s a hs => ?_) (fun s a hs => ?_) (fun a => ?_) (fun a => ?_) ht e
  · unfold cq nl
    rw [show decide (s ≤ t - 1 ∨ 2 * a ≠ s) = decide (s ≤ t ∨ 2 * a ≠ s) from by rw [decide_eq_decide]; omega]
  · rw [if_neg hs]
    unfold cq
    by_cases h0 : s = 0
    · rw [decide_eq_true h0]
      unfold nl
      rw [decide_eq_true (show s ≤ t ∨ 2 * a ≠ s from by omega)]
      simp
    · rw [decide_eq_false h0, Bool.false_or]
  · rw [if_pos rfl]
    unfold cq nl
    rw [decide_eq_true (show t ≤ t ∨ 2 * a ≠ t from by omega), decide_eq_false (show ¬ t = 0 from by omega)]
    by_cases h2 : 2 * a = t
    · rw [decide_eq_true h2, decide_eq_false (show ¬ (t ≤ t - 1 ∨ 2 * a ≠ t) from by omega)]
      simp
    · rw [decide_eq_false h2, decide_eq_true (show t ≤ t - 1 ∨ 2 * a ≠ t from by omega)]
      simp
  · rw [if_pos rfl]
    unfold cq nl
    rw [decide_eq_false (show ¬ t = 0 from by omega)]
    by_cases h2 : 2 * a = t
    · rw [decide_eq_true h2, decide_eq_false (show ¬ (t ≤ t - 1 ∨ 2 * a ≠ t) from by omega)]
      simp
    · rw [decide_eq_false h2]
      simp
theorem last_0 {P : Nat → Nat → Bool} {n e : Nat} : cf (fun s a => P s a && (!decide (s = 0) || decide (2 * a = s)) && (!decide (0 + 1 ≤ s ∧ s ≤ n ∧ s ≤ n) || !decide (2 * a = s))) n e = cf (cq P (nl 0)) n e := cf_congr (fun s a hs ha _ => by
  unfold cq nl
  by_cases h0 : s = 0
  · rw [decide_eq_true h0, decide_eq_true (show 2 * a = s from by omega), decide_eq_false (show ¬ (0 + 1 ≤ s ∧ s ≤ n ∧ s ≤ n) from by omega)]
    simp
  · rw [decide_eq_false h0, decide_eq_true (show 0 + 1 ≤ s ∧ s ≤ n ∧ s ≤ n from by omega), show decide (s ≤ 0 ∨ 2 * a ≠ s) = !decide (2 * a = s) from by rw [← decide_not, decide_eq_decide]; omega]
    simp)
def LV (P : Nat → Nat → Bool) (n e t : Nat) : Nat := cf (fun s a => P s a && (!decide (s = t) || decide (2 * a = s)) && (!decide (t + 1 ≤ s ∧ s ≤ n ∧ s ≤ n) || !decide (2 * a = s))) n e
theorem k_last : ok_last GT := by
  intro tr b M x1 h
  obtain ⟨⟨D, w, hD, hR⟩, _⟩ := id h
  have hn := w.2.2.2.2.1
  have he := de_le (D := D)
  by_cases hc : 0 ≤ x1.toInt ∧ x1.toInt ≤ 24
  · obtain ⟨k, hk, rfl⟩ := i_nat (m := 24) hc
    refine gt_q (g := fun N => f_X5_last N 0 (Int32.ofNat k)) (v := Int32.ofNat (if k ≤ dn D then LV (PF D) (dn D) (de D) k else 0)) h (S4 := [(0, some 0, some 0), (0, some 0, some 1), (103, some 0, none), (105, some 0, none), (106, some 0, none)]) (S5 := [(5, some 0, some 29), (728, some 0, none), (730, some 0, none)]) ?_ rfl (fun N hkp => ?_) rfl
    · unfold f_X4_last
      refine wp_be (f_w M _ (m := 24) (by decide)) (wp_neg (bz_dn hc) ?_)
      refine wp_call (wp_km (c_layFit w hD) fr_f_X0_layFitting) (fun N hN => ?_)
      rw [hN.1.1]
      refine wp_le (by omega) (by omega) (fun hle => ?_) (fun hgt => wp_some ⟨?_, hN.2.mono rfl⟩)
      · refine wp_call (wp_km (c_keepLevel hN.1 hn (by omega)) fr_f_X0_keepLevel) (fun N2 hN2 => ?_)
        rw [hN2.1.1, i_s]
        refine wp_call (wp_km (c_closeLevel (u := k + 1) hN2.1 hn (by omega) hn) fr_f_X0_closeLevel) (fun N3 hN3 => wp_call (wp_kp (c_countRows hN3.1 hn (by omega)) fr_f_X0_countRows) (fun y hy => wp_some ⟨?_, keeps.trans (hN.2.mono rfl) (keeps.trans (hN2.2.mono rfl) (keeps.trans (hN3.2.mono rfl) (hy.2.mono rfl)))⟩))
        show y.1 = _
        rw [hy.1, if_pos hle]
        rfl
      · show (0 : Int32) = _
        rw [if_neg (by omega)]
        rfl
    · unfold f_X5_last
      refine wp_be (f_i N _ (l := 0) (m := 24) (by decide) (by decide)) (wp_neg (bz_dn hc) ?_)
      refine wp_call (wp_km (r_seeAll w (hR.ag hkp rfl)) fr_f_X5_seeAll) (fun N1 h1 => ?_)
      refine wp_call (wp_kp (r_count (so := nl k) hn he h1.1 (PF_e D) (fun M t a _ h1 h2 h3 => so_4 M _ hk (by omega) h3)) fr_f_X5_count) (fun y hy => wp_let ?_)
      have hRy := h1.1.mv hy.2 rfl (fun _ => rfl)
      refine wp_call (Q := fun z => z.1 = Int64.ofNat (if k = 0 then 0 else cf (cq (PF D) (nl (k - 1))) (dn D) (de D)) ∧ z.2.1 5 0 0 29 = Int32.ofNat (dn D) ∧ keeps [(730, some 0, none)] y.2 z.2) ?_ (fun z hz => wp_let ?_)
      · refine wp_ieq (y := 0) (by omega) (by omega) (fun h0 => wp_some ⟨by rw [if_pos h0]; rfl, hRy.1, keeps.rf _ _⟩) (fun h0 => ?_)
        obtain ⟨k', rfl⟩ : ∃ k', k = k' + 1 := ⟨k - 1, by omega⟩
        rw [i_m]
        refine wp_call (wp_kp (r_count (so := nl k') hn he hRy (PF_e D) (fun M t a _ h1 h2 h3 => so_4 M _ (by omega) (by omega) h3)) fr_f_X5_count) (fun z hz => wp_some ⟨?_, (hz.2.i _ _ _ _ rfl).trans hRy.1, hz.2⟩)
        show z.1 = _
        rw [hz.1.1, if_neg h0]
        rfl
      · have kk : keeps [(5, some 0, some 29), (728, some 0, none), (730, some 0, none)] N z.2 := keeps.trans (h1.2.mono rfl) (keeps.trans (hy.2.mono rfl) (hz.2.2.mono rfl))
        rw [hz.2.1]
        refine wp_le (by omega) (by omega) (fun hle => wp_some ⟨?_, kk⟩) (fun hgt => wp_some ⟨?_, kk⟩)
        · show (y.1 - z.1).toInt32 = _
          rw [hy.1.1, hz.1, if_pos hle]
          by_cases h0 : k = 0
          · subst h0
            rw [if_pos rfl, l_sub (Nat.zero_le _), Nat.sub_zero, l_32]
            unfold LV
            rw [last_0]
          · rw [if_neg h0, last_eq hle (by omega), l_sub (Nat.le_add_right _ _), Nat.add_sub_cancel_left, l_32]
            rfl
        · show (0 : Int32) = _
          rw [if_neg (by omega)]
          rfl
  · refine gt_r0 (g := fun N => f_X5_last N 0 x1) (v := (-2 : Int32)) (w := 2) (by omega) h ?_ (fun N => ?_)
    · unfold f_X4_last
      exact wp_is (wp_be (f_w M _ (m := 24) (by decide)) (wp_pos (bz_n hc) (wp_be (x4_ref2 M) (wp_some rfl))))
    · unfold f_X5_last
      exact wp_is (wp_be (f_i N _ (l := 0) (m := 24) (by decide) (by decide)) (wp_pos (bz_n hc) (wp_be (x5_ref2 N) (wp_some rfl))))
/-! the greatest lead -/
theorem c_fitNotAbove {M : am_M} {D : dd} {g : Int32} (w : WF D) (hD : DR M 0 D) (h1 : -1 ≤ g.toInt) (h2 : g.toInt ≤ 24) : wp (f_X4_fittingNotAbove M g) (fun y => y.1 = Int32.ofNat (cf (fun s a => PF D s a && (!decide (0 ≤ s ∧ s ≤ dn D) || decide ((2 * a : Int) - s ≤ g.toInt))) (dn D) (de D))) := by
  have hn := w.2.2.2.2.1
  have he := de_le (D := D)
  unfold f_X4_fittingNotAbove
  exact wp_call (c_layFit w hD) (fun N hN => wp_call (c_keepNotAbove hN hn h1 h2) (fun N2 hN2 => wp_call (c_countRows hN2 hn (by omega)) (fun y hy => wp_some hy)))
theorem gr_eq {P : Nat → Nat → Bool} {n e g : Nat} : cf (fun s a => P s a && (!decide (0 ≤ s ∧ s ≤ n) || decide ((2 * a : Int) - s ≤ (g : Int)))) n e = cf (cq P (fun t a => decide (2 * a ≤ t + g))) n e := cf_congr (fun s a hs ha _ => by
  unfold cq
  rw [decide_eq_true (show 0 ≤ s ∧ s ≤ n from by omega)]
  by_cases h0 : s = 0
  · rw [decide_eq_true h0, decide_eq_true (show (2 * a : Int) - s ≤ (g : Int) from by omega)]
    simp
  · rw [decide_eq_false h0, show decide ((2 * a : Int) - s ≤ (g : Int)) = decide (2 * a ≤ s + g) from by rw [decide_eq_decide]; omega]
    simp)
theorem gr_m1 {P : Nat → Nat → Bool} {n e : Nat} : cf (fun s a => P s a && (!decide (0 ≤ s ∧ s ≤ n) || decide ((2 * a : Int) - s ≤ (-1 : Int)))) n e = 0 := by
  rw [← fb _ e (Nat.zero_le n)]
  refine sm_zero (fun a ha => ?_)
  rw [cf_no, Nat.zero_mul]
  rw [decide_eq_true (show 0 ≤ 0 ∧ 0 ≤ n from by omega), decide_eq_false (by omega)]
  simp
theorem k_greatest : ok_greatest GT := by
  intro tr b M x1 h
  obtain ⟨⟨D, w, hD, hR⟩, _⟩ := id h
  have hn := w.2.2.2.2.1
  have he := de_le (D := D)
  by_cases hc : 0 ≤ x1.toInt ∧ x1.toInt ≤ 24
  · obtain ⟨k, hk, rfl⟩ := i_nat (m := 24) hc
    refine gt_q (g := fun N => f_X5_greatest N 0 (Int32.ofNat k)) (v := Int32.ofNat (cf (cq (PF D) (fun t a => decide (2 * a ≤ t + k))) (dn D) (de D) - (if k = 0 then 0 else cf (cq (PF D) (fun t a => decide (2 * a ≤ t + (k - 1)))) (dn D) (de D)))) h (S4 := [(0, some 0, some 0), (0, some 0, some 1), (103, some 0, none), (105, some 0, none), (106, some 0, none)]) (S5 := [(5, some 0, some 29), (728, some 0, none), (730, some 0, none)]) ?_ rfl (fun N hkp => ?_) rfl
    · unfold f_X4_greatest
      refine wp_be (f_w M _ (m := 24) (by decide)) (wp_neg (bz_dn hc) ?_)
      refine wp_call (wp_kp (c_fitNotAbove w hD (by omega) hc.2) fr_f_X4_fittingNotAbove) (fun y hy => ?_)
      have ex : (Int32.ofNat k - 1).toInt = (k : Int) - 1 := by rw [i_tsub (by rw [i_ti (by omega), t1]; omega) (by rw [i_ti (by omega), t1]; omega), i_ti (by omega), t1]
      refine wp_call (wp_kp (c_fitNotAbove (g := Int32.ofNat k - 1) w (hD.ag hy.2 rfl) (by omega) (by omega)) fr_f_X4_fittingNotAbove) (fun z hz => wp_some ⟨?_, keeps.trans (hy.2.mono rfl) (hz.2.mono rfl)⟩)
      show y.1 - z.1 = _
      rw [hy.1, hz.1, ex, i_ti (by omega), gr_eq]
      by_cases h0 : k = 0
      · subst h0
        have e0 : ((0 : Nat) : Int) - 1 = -1 := rfl
        rw [if_pos rfl, e0, gr_m1, i_sub (Nat.zero_le _)]
      · have e0 : (k : Int) - 1 = ((k - 1 : Nat) : Int) := by omega
        rw [if_neg h0, e0, gr_eq, i_sub (cf_mono (fun t a hh => ?_) _ _)]
        unfold cq at *
        simp only [Bool.and_eq_true, Bool.or_eq_true, decide_eq_true_eq] at *
        exact ⟨hh.1, by omega⟩
    · unfold f_X5_greatest
      refine wp_be (f_i N _ (l := 0) (m := 24) (by decide) (by decide)) (wp_neg (bz_dn hc) ?_)
      refine wp_call (wp_kp (r_fits (so := fun t a => decide (2 * a ≤ t + k)) w (hR.ag hkp rfl) (fun M t a _ h1 h2 h3 => so_3 M _ hk (by omega) h3)) fr_f_X5_countFits) (fun y hy => wp_let ?_)
      refine wp_ieq (y := 0) (by omega) (by omega) (fun h0 => wp_some ⟨?_, hy.2.mono rfl⟩) (fun h0 => ?_)
      · show y.1.toInt32 = _
        rw [hy.1.1, l_32, if_pos h0, Nat.sub_zero]
      · obtain ⟨k', rfl⟩ : ∃ k', k = k' + 1 := ⟨k - 1, by omega⟩
        rw [i_m]
        refine wp_call (wp_kp (r_count (so := fun t a => decide (2 * a ≤ t + k')) hn he hy.1.2 (PF_e D) (fun M t a _ h1 h2 h3 => so_3 M _ (by omega) (by omega) h3)) fr_f_X5_count) (fun z hz => wp_some ⟨?_, keeps.trans (hy.2.mono rfl) (hz.2.mono rfl)⟩)
        show (y.1 - z.1).toInt32 = _
        rw [hy.1.1, hz.1.1, if_neg h0, Nat.add_sub_cancel, l_sub (cf_mono (fun t a hh => ?_) _ _), l_32]
        unfold cq at *
        simp only [Bool.and_eq_true, Bool.or_eq_true, decide_eq_true_eq] at *
        exact ⟨hh.1, by omega⟩
  · refine gt_r0 (g := fun N => f_X5_greatest N 0 x1) (v := (-2 : Int32)) (w := 2) (by omega) h ?_ (fun N => ?_)
    · unfold f_X4_greatest
      exact wp_is (wp_be (f_w M _ (m := 24) (by decide)) (wp_pos (bz_n hc) (wp_be (x4_ref2 M) (wp_some rfl))))
    · unfold f_X5_greatest
      exact wp_is (wp_be (f_i N _ (l := 0) (m := 24) (by decide) (by decide)) (wp_pos (bz_n hc) (wp_be (x5_ref2 N) (wp_some rfl))))
