/-! what drawings say -/
theorem cf_b {P : Nat → Nat → Bool} {n e : Nat} (hn : n ≤ 24) : cf P n e ≤ 16777216 := Nat.le_trans (cf_le P n e) (Nat.le_trans (Nat.pow_le_pow_right (by omega) hn) (by decide))
theorem cq_t (P : Nat → Nat → Bool) : cq P (fun _ _ => true) = P := by
  funext t a
  unfold cq
  simp
def SV (D : dd) (kd k : Nat) : Nat :=
  if kd = 1 then cf (cq (PO (dn D) (de D)) (ah k)) (dn D) (de D)
  else if kd = 2 then cf (cq (DP D) (ah k)) (dn D) (de D)
  else if kd = 3 then cf (cq (DP D) (fun t a => decide (t % 2 = 1 ∧ t < dn D) || ah k t a)) (dn D) (de D)
  else if kd = 4 then cf (cq (PB (DP D) (dn D) (de D)) (ah k)) (dn D) (de D)
  else if kd = 5 then cf (QS (DP D) (dn D) k) (dn D) (de D)
  else cf (PO (dn D) (de D)) (dn D) (de D) - cf (cq (PO (dn D) (de D)) (fun t a => !ah k t a)) (dn D) (de D)
theorem SV_b {D : dd} (w : WH D) (kd k : Nat) : SV D kd k ≤ 16777216 := by
  have hn := w.2.2.2.2
  unfold SV
  repeat' split
  all_goals first | exact cf_b hn | exact Nat.le_trans (Nat.sub_le _ _) (cf_b hn)
theorem cq_ah {P : Nat → Nat → Bool} {n k e : Nat} : cf (fun s a => P s a && (!decide (1 ≤ s ∧ s ≤ n ∧ s ≤ n) || ah k s a)) n e = cf (cq P (ah k)) n e := cf_congr (fun s b h1 _ _ => by
  unfold cq
  by_cases h0 : s = 0
  · rw [decide_eq_true h0, decide_eq_false (by omega)]
    simp
  · rw [decide_eq_false h0, decide_eq_true (by omega)]
    simp)
theorem cq_nah {P : Nat → Nat → Bool} {n k e : Nat} : cf (fun s a => P s a && (!decide (1 ≤ s ∧ s ≤ n) || !ah k s a)) n e = cf (cq P (fun t a => !ah k t a)) n e := cf_congr (fun s b h1 _ _ => by
  unfold cq
  by_cases h0 : s = 0
  · rw [decide_eq_true h0, decide_eq_false (by omega)]
    simp
  · rw [decide_eq_false h0, decide_eq_true (by omega)]
    simp)
theorem cq_two {P : Nat → Nat → Bool} {n k e : Nat} : cf (fun s a => P s a && (!decide (1 ≤ s ∧ (s % 2 = 0 ∨ s = n)) || ah k s a)) n e = cf (cq P (fun t a => decide (t % 2 = 1 ∧ t < n) || ah k t a)) n e := cf_congr (fun s b h1 _ _ => by
  unfold cq
  dsimp only
  by_cases h0 : s = 0
  · rw [decide_eq_true h0, decide_eq_false (by omega)]
    simp
  · rw [decide_eq_false h0, Bool.false_or]
    by_cases h2 : s % 2 = 0 ∨ s = n
    · rw [decide_eq_true (show 1 ≤ s ∧ (s % 2 = 0 ∨ s = n) from by omega), decide_eq_false (show ¬ (s % 2 = 1 ∧ s < n) from by omega)]
      simp
    · rw [decide_eq_false (show ¬ (1 ≤ s ∧ (s % 2 = 0 ∨ s = n)) from by omega), decide_eq_true (show s % 2 = 1 ∧ s < n from by omega)]
      simp)
theorem cq_back {P : Nat → Nat → Bool} {n k e : Nat} : cf (fun s a => P s a && (!decide (0 ≤ s ∧ s < n) || decide (a + (k * (n - s) / (k + 1) + 1) ≤ e))) n e = cf (cq (PB P n e) (ah k)) n e := by
  rw [← cf_rev]
  refine cf_congr (fun s b h1 _ h3 => ?_)
  show (decide (b ≤ e) && (P (n - s) (e - b) && (!decide (0 ≤ n - s ∧ n - s < n) || decide (e - b + (k * (n - (n - s)) / (k + 1) + 1) ≤ e)))) = ((decide (b ≤ e) && P (n - s) (e - b)) && (decide (s = 0) || ah k s b))
  rw [decide_eq_true h3, Bool.true_and, Bool.true_and]
  congr 1
  by_cases h0 : s = 0
  · rw [decide_eq_true h0, decide_eq_false (by omega)]
    rfl
  · rw [decide_eq_false h0, decide_eq_true (show 0 ≤ n - s ∧ n - s < n from by omega), show n - (n - s) = s from by omega, Bool.not_true, Bool.false_or, Bool.false_or]
    unfold ah
    rw [decide_eq_decide]
    have h4 : k * s / (k + 1) < b ↔ k * s < b * (k + 1) := Nat.div_lt_iff_lt_mul (by omega)
    omega
theorem c_sayOnce {M : am_M} {n e k : Nat} {P : Nat → Nat → Bool} (hC : CL M n e P) (hn : n ≤ 24) (he : e ≤ 24) (hk : k ≤ 9) : wp (f_X4_sayingOnce M (Int32.ofNat k)) (fun y => y.1 = Int32.ofNat (cf P n e - cf (cq P (fun t a => !ah k t a)) n e)) := by
  unfold f_X4_sayingOnce
  refine wp_call (wp_kp (c_countRows hC hn he) fr_f_X0_countRows) (fun y hy => ?_)
  refine wp_call (c_closeAhead (hC.mv hy.2 rfl rfl (fun _ => rfl)) hn hk) (fun N hN => ?_)
  refine wp_call (c_countRows hN hn he) (fun z hz => wp_some ?_)
  show y.1 - z.1 = _
  rw [hy.1, hz, cq_nah, i_sub (cf_mono (fun t a h => by unfold cq at h; simp only [Bool.and_eq_true] at h; exact h.1) n e)]
theorem PH_one {n e t a : Nat} : PH (fun _ => e) (fun _ => n - e) 1 t a = PO n e t a := by
  show (if t ≤ 0 then decide (t = 0 ∧ a = 0) else decide (0 ≤ a ∧ a ≤ 0 + e ∧ a + 0 ≤ t + 0 ∧ t + 0 ≤ a + 0 + (n - e))) = decide (a ≤ t ∧ a ≤ e ∧ t ≤ a + (n - e))
  by_cases h : t ≤ 0
  · rw [if_pos h, decide_eq_decide]
    omega
  · rw [if_neg h, decide_eq_decide]
    omega
theorem c_saying {M : am_M} {D : dd} {kd k : Nat} (w : WF D) (h : DR M 0 D) (h1 : 1 ≤ kd) (h6 : kd ≤ 6) (hk : k ≤ 9) : wp (f_X4_saying M (Int32.ofNat kd) (Int32.ofNat k)) (fun y => y.1 = Int32.ofNat (SV D kd k)) := by
  have hn := w.2.2.2.2.1
  have he := de_le (D := D)
  have sh : wp (f_X0_layShaken M 0) (fun N => CL N (dn D) (de D) (PO (dn D) (de D))) := wp_mono (c_layShaken hn he h.2.1 h.2.2.1) (fun N hN => hN.cong (fun t a _ _ => PH_one))
  have hp : wp (f_X0_layHeaps M 0 205 0 0 4) (fun N => CL N (dn D) (de D) (DP D)) := c_layHeaps (by decide) w.1 hn (h.HO w)
  unfold f_X4_saying
  have hc : kd = 1 ∨ kd = 2 ∨ kd = 3 ∨ kd = 4 ∨ kd = 5 ∨ kd = 6 := by omega
  rcases hc with rfl | rfl | rfl | rfl | rfl | rfl
  · refine wp_call (wp_pos (by decide) (wp_call sh (fun N hN => wp_some hN))) (fun N hN => ?_)
    refine wp_neg (by decide) (wp_neg (by decide) (wp_neg (by decide) (wp_neg (by decide) ?_)))
    rw [hN.1]
    refine wp_call (c_keepAhead (u := 1) hN hn hk (by omega) hn) (fun N2 hN2 => wp_call (c_countRows hN2 hn (by omega)) (fun y hy => wp_some ?_))
    show y.1 = _
    rw [hy, cq_ah]
    rfl
  · refine wp_call (wp_neg (by decide) (wp_neg (by decide) (wp_call hp (fun N hN => wp_some hN)))) (fun N hN => ?_)
    refine wp_neg (by decide) (wp_neg (by decide) (wp_neg (by decide) (wp_neg (by decide) ?_)))
    rw [hN.1]
    refine wp_call (c_keepAhead (u := 1) hN hn hk (by omega) hn) (fun N2 hN2 => wp_call (c_countRows hN2 hn (by omega)) (fun y hy => wp_some ?_))
    show y.1 = _
    rw [hy, cq_ah]
    rfl
  · refine wp_call (wp_neg (by decide) (wp_neg (by decide) (wp_call hp (fun N hN => wp_some hN)))) (fun N hN => ?_)
    refine wp_pos (by decide) ?_
    refine wp_call (c_byTwos hN hn hk) (fun N2 hN2 => wp_call (c_countRows hN2 hn (by omega)) (fun y hy => wp_some ?_))
    show y.1 = _
    rw [hy, cq_two]
    rfl
  · refine wp_call (wp_neg (by decide) (wp_neg (by decide) (wp_call hp (fun N hN => wp_some hN)))) (fun N hN => ?_)
    refine wp_neg (by decide) (wp_pos (by decide) ?_)
    refine wp_call (c_keepFromBehind hN hn (by omega) hk) (fun N2 hN2 => wp_call (c_countRows hN2 hn (by omega)) (fun y hy => wp_some ?_))
    show y.1 = _
    rw [hy, cq_back]
    rfl
  · refine wp_call (wp_neg (by decide) (wp_neg (by decide) (wp_call hp (fun N hN => wp_some hN)))) (fun N hN => ?_)
    refine wp_neg (by decide) (wp_neg (by decide) (wp_pos (by decide) ?_))
    refine wp_call (c_keepUntilSure hN hn hk) (fun N2 hN2 => wp_call (c_countRows hN2 hn (by omega)) (fun y hy => wp_some ?_))
    show y.1 = _
    rw [hy]
    rfl
  · refine wp_call (wp_neg (by decide) (wp_pos (by decide) (wp_call sh (fun N hN => wp_some hN)))) (fun N hN => ?_)
    refine wp_neg (by decide) (wp_neg (by decide) (wp_neg (by decide) (wp_pos (by decide) ?_)))
    refine wp_call (c_sayOnce hN hn (by omega) hk) (fun y hy => wp_some ?_)
    show y.1 = _
    rw [hy]
    rfl
theorem PO_end {n e a : Nat} (he : e ≤ n) (h : PO n e n a = true) : a = e := by
  unfold PO at h
  rw [decide_eq_true_eq] at h
  omega
theorem DP_e (D : dd) (a : Nat) (h : DP D (dn D) a = true) : a = de D := by
  rw [DP_end, decide_eq_true_eq] at h
  exact h
theorem DP_0 (D : dd) (a : Nat) : DP D 0 a = decide (a = 0) := PH_0 _ _ _ a
theorem PB_end (D : dd) (a : Nat) (h : PB (DP D) (dn D) (de D) (dn D) a = true) : a = de D := by
  unfold PB at h
  rw [Nat.sub_self, DP_0] at h
  simp only [Bool.and_eq_true, decide_eq_true_eq] at h
  omega
theorem l_sub {x y : Nat} (h : y ≤ x) : Int64.ofNat x - Int64.ofNat y = Int64.ofNat (x - y) := (Int64.ofNat_sub x y h).symm
theorem r_drawn {M : am_M} {o : Nat} {D : dd} {kd k : Nat} (w : WH D) (h : RH M o D) (h1 : 1 ≤ kd) (h6 : kd ≤ 6) (hk : k ≤ 9) : wp (f_X5_drawn M o (Int32.ofNat kd) (Int32.ofNat k)) (fun y => y.1 = Int64.ofNat (SV D kd k)) := by
  have hn := w.2.2.2.2
  have he := de_le (D := D)
  unfold f_X5_drawn
  have hc : kd = 1 ∨ kd = 2 ∨ kd = 3 ∨ kd = 4 ∨ kd = 5 ∨ kd = 6 := by omega
  rcases hc with rfl | rfl | rfl | rfl | rfl | rfl
  · refine wp_pos (by decide) (wp_call (r_seeOne w h) (fun N hN => wp_call (r_count (so := ah k) hn he hN (fun a ha => PO_end he ha) (fun M t a _ h1 h2 h3 => so_1 M o hk (by omega) h3)) (fun y hy => wp_some hy.1)))
  · refine wp_neg (by decide) (wp_pos (by decide) (wp_call (r_seeHeaps w h) (fun N hN => wp_call (r_count (so := ah k) hn he hN (DP_e D) (fun M t a _ h1 h2 h3 => so_1 M o hk (by omega) h3)) (fun y hy => wp_some hy.1))))
  · refine wp_neg (by decide) (wp_neg (by decide) (wp_pos (by decide) (wp_call (r_seeHeaps w h) (fun N hN => wp_call (r_count (so := fun t a => decide (t % 2 = 1 ∧ t < dn D) || ah k t a) hn he hN (DP_e D) (fun M t a h5 h1 h2 h3 => so_5 h5 hn hk (by omega) h3)) (fun y hy => wp_some hy.1)))))
  · refine wp_neg (by decide) (wp_neg (by decide) (wp_neg (by decide) (wp_pos (by decide) (wp_call (r_seeBack w h) (fun N hN => wp_call (r_count (so := ah k) hn he hN (PB_end D) (fun M t a _ h1 h2 h3 => so_1 M o hk (by omega) h3)) (fun y hy => wp_some hy.1))))))
  · refine wp_neg (by decide) (wp_neg (by decide) (wp_neg (by decide) (wp_neg (by decide) (wp_pos (by decide) (wp_call (wp_km (r_seeHeaps w h) fr_f_X5_seeHeaps) (fun N hN => wp_call (r_countSurely w hk (h.mv hN.2 rfl (fun _ => rfl) (fun _ => rfl) (fun _ => rfl)) hN.1 (DP_e D)) (fun y hy => wp_some hy)))))))
  · refine wp_neg (by decide) (wp_neg (by decide) (wp_neg (by decide) (wp_neg (by decide) (wp_neg (by decide) (wp_call (r_seeOne w h) (fun N hN => ?_))))))
    refine wp_call (wp_kp (r_count (w := 0) (k := 0) (so := fun _ _ => true) hn he hN (fun a ha => PO_end he ha) (fun M t a _ h1 h2 h3 => so_0 M o _ _ _)) fr_f_X5_count) (fun y hy => ?_)
    refine wp_call (r_count (so := fun t a => !ah k t a) hn he (hN.mv hy.2 rfl (fun _ => rfl)) (fun a ha => PO_end he ha) (fun M t a _ h1 h2 h3 => so_6 M o hk (by omega) h3)) (fun z hz => wp_some ?_)
    show y.1 - z.1 = _
    rw [hy.1.1, hz.1, cq_t, l_sub (cf_mono (fun t a h => by unfold cq at h; simp only [Bool.and_eq_true] at h; exact h.1) _ _)]
    rfl
