/-! small calls -/
theorem k_feed : ok_feed GT := by
  intro tr b M x1 h
  obtain ⟨⟨D, w, hD, hR⟩, h2, hT, h4, h5⟩ := id h
  obtain ⟨z, c, hz, t1', t2', t3'⟩ := id hT
  by_cases hc : 0 ≤ x1.toInt ∧ x1.toInt ≤ 255
  · obtain ⟨l, hl, rfl⟩ := i_nat (m := 255) hc
    by_cases hf : z < 250
    · refine ⟨(Int32.ofNat (z + 1), am_si (am_si M 402 0 0 z (Int32.ofNat l)) 3 0 0 0 (Int32.ofNat (z + 1))), (Int32.ofNat (z + 1), am_si (am_si (am_si (am_si M 402 0 0 z (Int32.ofNat l)) 3 0 0 0 (Int32.ofNat (z + 1))) 5 0 0 8 (Int32.ofNat (z + 1))) 607 0 0 z (Int32.ofNat l)), wp_is ?_, wp_is ?_, rfl, ?_⟩
      · unfold f_X4_feed f_X3_append
        rw [t1', i_cl (x := z) (by omega)]
        refine wp_be (f_w M _ (m := 255) (by decide)) (wp_neg (bz_dn hc) (wp_lt (y := 250) (by omega) (by omega) (fun _ => ?_) (fun e => absurd e (by omega))))
        refine wp_call (wp_le (x := 250) (by omega) (by omega) (fun e => absurd e (by omega)) (fun _ => wp_inb hf (by omega) (wp_let (wp_let (wp_some rfl))))) (fun y hy => wp_some ?_)
        have e3 : (am_si M 402 0 0 z (Int32.ofNat l)).1 3 0 0 0 + 1 = Int32.ofNat (z + 1) := by rw [si_k (by decide), t1', i_s]
        rw [← hy, e3, am_si_self]
      · unfold f_X5_feed
        have e8 : (am_si (am_si M 402 0 0 z (Int32.ofNat l)) 3 0 0 0 (Int32.ofNat (z + 1))).1 5 0 0 8 = Int32.ofNat z := by rw [si_k (by decide), si_k (by decide)]; exact t2'
        rw [e8, i_cl (x := z) (by omega), i_s]
        refine wp_be (f_i _ _ (l := 0) (m := 255) (by decide) (by decide)) (wp_neg (bz_dn hc) (wp_ieq (y := 250) (by omega) (by omega) (fun e => absurd e (by omega)) (fun _ => wp_let (wp_inb hf (by omega) (wp_let (wp_some ?_))))))
        rw [si_k (by decide), am_si_self]
      · have kM : keeps [(402, some 0, none), (3, some 0, some 0), (5, some 0, some 8), (607, some 0, none)] M (am_si (am_si (am_si (am_si M 402 0 0 z (Int32.ofNat l)) 3 0 0 0 (Int32.ofNat (z + 1))) 5 0 0 8 (Int32.ofNat (z + 1))) 607 0 0 z (Int32.ofNat l)) := ((((keeps.rf _ M).si rfl).si rfl).si rfl).si rfl
        refine ⟨⟨D, w, hD.ag kM rfl, hR.ag kM rfl⟩, h2.ag kM rfl, ⟨z + 1, up c z l, by omega, ?_, ?_, fun j hj => ⟨?_, ?_, ?_⟩⟩, h4.ag kM rfl, h5.ag kM rfl rfl rfl⟩
        · rw [si_k (by decide), si_k (by decide), am_si_self]
        · rw [si_k (by decide), am_si_self]
        · rw [si_k (by decide), si_k (by decide), si_k (by decide), si_e]
          by_cases e : j = z
          · rw [if_pos e, e, up_e]
          · rw [if_neg e, up_n e]
            exact (t3' j (by omega)).1
        · rw [si_e, si_k (by decide), si_k (by decide), si_k (by decide)]
          by_cases e : j = z
          · rw [if_pos e, e, up_e]
          · rw [if_neg e, up_n e]
            exact (t3' j (by omega)).2.1
        · by_cases e : j = z
          · rw [e, up_e]; exact hl
          · rw [up_n e]
            exact (t3' j (by omega)).2.2
    · refine gt_r1 (g := fun N => f_X5_feed N 0 (Int32.ofNat l)) (v := (-6 : Int32)) (w := 6) (by omega) h (wp_is ?_) (wp_is ?_)
      · unfold f_X4_feed
        rw [t1']
        exact wp_be (f_w M _ (m := 255) (by decide)) (wp_neg (bz_dn hc) (wp_lt (y := 250) (by omega) (by omega) (fun e => absurd e (by omega)) (fun _ => wp_be (x4_ref6 M) (wp_some rfl))))
      · unfold f_X5_feed
        rw [show (ref4 M 6).1 5 0 0 8 = Int32.ofNat z from (si_k (by decide)).trans t2']
        exact wp_be (f_i _ _ (l := 0) (m := 255) (by decide) (by decide)) (wp_neg (bz_dn hc) (wp_ieq (y := 250) (by omega) (by omega) (fun _ => wp_be (x5_ref6 _) (wp_some rfl)) (fun e => absurd e (by omega))))
  · refine gt_r0 (g := fun N => f_X5_feed N 0 x1) (v := (-2 : Int32)) (w := 2) (by omega) h (wp_is ?_) (fun N => wp_is ?_)
    · unfold f_X4_feed
      exact wp_be (f_w M _ (m := 255) (by decide)) (wp_pos (bz_n hc) (wp_be (x4_ref2 M) (wp_some rfl)))
    · unfold f_X5_feed
      exact wp_be (f_i N _ (l := 0) (m := 255) (by decide) (by decide)) (wp_pos (bz_n hc) (wp_be (x5_ref2 N) (wp_some rfl)))
theorem k_wipe : ok_wipe GT := by
  intro tr b M h
  obtain ⟨⟨D, w, hD, hR⟩, h2, hT, h4, h5⟩ := id h
  obtain ⟨z, c, hz, t1', t2', t3'⟩ := id hT
  have kM : keeps [(3, some 0, some 0), (5, some 0, some 8)] M (am_si (am_si M 3 0 0 0 0) 5 0 0 8 0) := ((keeps.rf _ M).si rfl).si rfl
  refine ⟨(M.1 3 0 0 0, am_si M 3 0 0 0 0), (M.1 5 0 0 8, am_si (am_si M 3 0 0 0 0) 5 0 0 8 0), rfl, ?_, t1'.trans t2'.symm, ⟨D, w, hD.ag kM rfl, hR.ag kM rfl⟩, h2.ag kM rfl, ⟨0, c, by omega, ?_, ?_, fun j hj => absurd hj (Nat.not_lt_zero j)⟩, h4.ag kM rfl, h5.ag kM rfl rfl rfl⟩
  · unfold f_X5_wipe
    refine wp_is (wp_let (wp_let (wp_some ?_)))
    rw [si_k (by decide)]
  · rw [si_k (by decide), am_si_self]
    rfl
  · rw [am_si_self]
    rfl
theorem r_heapOf62 {M : am_M} {o p : Nat} {D : dd} (w : WF D) (h : RH M o D) (hp : p < dh D) : ∀ (m j : Nat), j ≤ p → p + 1 ≤ m + j → wp (l_X5_heapOf_62 M o (Int32.ofNat (dO D p)) m (Int32.ofNat j)) (fun y => y = Int32.ofNat p) := by
  intro m
  have h4 := w.1
  induction m with
  | zero => intro j h1 h2; omega
  | succ m ih =>
    intro j hj hm
    have o1 := w.2.2.1 j (by omega)
    have o2 := w.2.2.1 p hp
    rw [l_X5_heapOf_62, i_cl (x := j) (by omega), (h.2 j (by omega)).2.2]
    refine wp_inb (by omega) (by omega) (wp_ieq (by omega) (by omega) (fun e => wp_some ?_) (fun e => wp_let ?_))
    · rw [w.2.2.2.1 j p (by omega) hp e]
    · rw [i_s]
      have : j ≠ p := fun z => e (by rw [z])
      exact ih (j + 1) (by omega) (by omega)
theorem k_heapOf : ok_heapOf GT := by
  intro tr b M x1 x2 h
  obtain ⟨⟨D, w, hD, hR⟩, _⟩ := id h
  have w1 := w.1
  have h1 := hD.1
  by_cases hc : (0 ≤ x1.toInt ∧ x1.toInt ≤ (dh D : Int) - 1) ∧ (0 ≤ x2.toInt ∧ x2.toInt ≤ 2)
  · obtain ⟨c1, c2⟩ := hc
    obtain ⟨i, hi, rfl⟩ := i_nat (m := dh D - 1) (x := x1) ⟨c1.1, by omega⟩
    obtain ⟨j, hj, rfl⟩ := i_nat (m := 2) c2
    have hid : i < dh D := by have := c1.2; rw [i_ti (by omega)] at this; omega
    obtain ⟨p, hp, ep⟩ := perm_at w.2.2.1 w.2.2.2.1 hid
    refine gt_q (g := fun N => f_X5_heapOf N 0 (Int32.ofNat i) (Int32.ofNat j)) (v := if j = 2 then Int32.ofNat p else if j = 0 then Int32.ofNat (dA D i) else Int32.ofNat (dB D i)) (S4 := []) (S5 := []) h ?_ rfl (fun N hk => ?_) rfl
    · unfold f_X4_heapOf
      rw [h1, i_cl (x := i) (by omega), (hD.2.2.2.1 i hid).1, (hD.2.2.2.1 i hid).2.1]
      refine wp_be (f_w M _ (i_nm1 (by omega))) (wp_neg (bz_dn c1) (wp_be (f_w M _ (m := 2) (by decide)) (wp_neg (bz_dn c2) (wp_ieq (y := 2) (by omega) (by omega) (fun e => ?_) (fun e => wp_ieq (y := 0) (by omega) (by omega) (fun e0 => wp_inb (by omega) (by omega) (wp_some ⟨by rw [if_neg e, if_pos e0], keeps.rf _ _⟩)) (fun e0 => wp_inb (by omega) (by omega) (wp_some ⟨by rw [if_neg e, if_neg e0], keeps.rf _ _⟩)))))))
      have := c_placeOf w hD hp
      rw [ep] at this
      exact wp_be this (wp_some ⟨by rw [if_pos e], keeps.rf _ _⟩)
    · have hRN := hR.ag hk rfl
      unfold f_X5_heapOf
      rw [hRN.1, i_cl (x := i) (by omega), (hRN.2.1 i hid).1, (hRN.2.1 i hid).2.1]
      refine wp_be (f_i _ _ (l := 0) (by decide) (l_nm1 (by omega))) (wp_neg (bz_dn c1) (wp_be (f_i _ _ (l := 0) (m := 2) (by decide) (by decide)) (wp_neg (bz_dn c2) (wp_le (x := 2) (by omega) (by omega) (fun e => ?_) (fun e => wp_ieq (y := 0) (by omega) (by omega) (fun e0 => wp_inb (by omega) (by omega) (wp_some ⟨by rw [if_neg (by omega), if_pos e0], keeps.rf _ _⟩)) (fun e0 => wp_inb (by omega) (by omega) (wp_some ⟨by rw [if_neg (by omega), if_neg e0], keeps.rf _ _⟩)))))))
      have := r_heapOf62 w hRN.H hp 1000 0 (by omega) (by omega)
      rw [ep] at this
      exact wp_call this (fun y hy => wp_some ⟨by rw [if_pos (show j = 2 from by omega)]; exact hy, keeps.rf _ _⟩)
  · refine gt_r1 (g := fun N => f_X5_heapOf N 0 x1 x2) (v := (-2 : Int32)) (w := 2) (by omega) h (wp_is ?_) (wp_is ?_)
    · unfold f_X4_heapOf
      rw [h1]
      refine wp_be (f_w M _ (i_nm1 (by omega))) (wp_bz (fun _ => wp_be (x4_ref2 M) (wp_some rfl)) (fun e1 => wp_be (f_w M _ (m := 2) (by decide)) (wp_bz (fun _ => wp_be (x4_ref2 M) (wp_some rfl)) (fun e2 => ?_))))
      rw [decide_eq_true_eq] at e1 e2
      exact absurd ⟨e1, e2⟩ hc
    · unfold f_X5_heapOf
      rw [(hR.ag (ref4_k M 2) rfl).1]
      refine wp_be (f_i _ _ (l := 0) (by decide) (l_nm1 (by omega))) (wp_bz (fun _ => wp_be (x5_ref2 _) (wp_some rfl)) (fun e1 => wp_be (f_i _ _ (l := 0) (m := 2) (by decide) (by decide)) (wp_bz (fun _ => wp_be (x5_ref2 _) (wp_some rfl)) (fun e2 => ?_))))
      rw [decide_eq_true_eq] at e1 e2
      exact absurd ⟨e1, e2⟩ hc
theorem k_factOf : ok_factOf GT := by
  intro tr b M x1 x2 h
  obtain ⟨⟨D, w, hD, hR⟩, _⟩ := id h
  have w9 := w.2.2.2.2.2.2.2.2.1
  obtain ⟨h1, h2, h3, h4, h5, h6, h7, h8, h9, h10⟩ := id hD
  by_cases hc : (0 ≤ x1.toInt ∧ x1.toInt ≤ (df D : Int) - 1) ∧ (0 ≤ x2.toInt ∧ x2.toInt ≤ 2)
  · obtain ⟨c1, c2⟩ := hc
    obtain ⟨i, hi, rfl⟩ := i_nat (m := df D - 1) (x := x1) ⟨c1.1, by omega⟩
    obtain ⟨j, hj, rfl⟩ := i_nat (m := 2) c2
    have hid : i < df D := by have := c1.2; rw [i_ti (by omega)] at this; omega
    refine gt_q (g := fun N => f_X5_factOf N 0 (Int32.ofNat i) (Int32.ofNat j)) (v := if j = 0 then Int32.ofNat (dK D i) else if j = 1 then Int32.ofNat (dT D i) else Int32.ofNat (dV D i)) (S4 := []) (S5 := []) h ?_ rfl (fun N hk => ?_) rfl
    · unfold f_X4_factOf
      rw [h8, i_cl (x := i) (by omega), (h9 i hid).1, (h9 i hid).2.1, (h9 i hid).2.2]
      exact wp_be (f_w M _ (i_nm1 (by omega))) (wp_neg (bz_dn c1) (wp_be (f_w M _ (m := 2) (by decide)) (wp_neg (bz_dn c2) (wp_ieq (y := 0) (by omega) (by omega) (fun e => wp_inb (by omega) (by omega) (wp_some ⟨by rw [if_pos e], keeps.rf _ _⟩)) (fun e => wp_ieq (y := 1) (by omega) (by omega) (fun e0 => wp_inb (by omega) (by omega) (wp_some ⟨by rw [if_neg e, if_pos e0], keeps.rf _ _⟩)) (fun e0 => wp_inb (by omega) (by omega) (wp_some ⟨by rw [if_neg e, if_neg e0], keeps.rf _ _⟩)))))))
    · have hRN := hR.ag hk rfl
      obtain ⟨q1, q2, q3, q4, q5, q6, q7⟩ := id hRN
      unfold f_X5_factOf
      rw [q5, i_cl (x := i) (by omega), i_cl (x := j) (by omega)]
      refine wp_be (f_i _ _ (l := 0) (by decide) (l_nm1 (by omega))) (wp_neg (bz_dn c1) (wp_be (f_i _ _ (l := 0) (m := 2) (by decide) (by decide)) (wp_neg (bz_dn c2) (wp_inb (by omega) (by omega) (wp_inb (by omega) (by omega) (wp_some ⟨?_, keeps.rf _ _⟩))))))
      show N.1 715 0 i j = _
      have hj3 : j = 0 ∨ j = 1 ∨ j = 2 := by omega
      rcases hj3 with rfl | rfl | rfl
      · exact (q6 i hid).1
      · exact (q6 i hid).2.1
      · exact (q6 i hid).2.2
  · refine gt_r1 (g := fun N => f_X5_factOf N 0 x1 x2) (v := (-2 : Int32)) (w := 2) (by omega) h (wp_is ?_) (wp_is ?_)
    · unfold f_X4_factOf
      rw [h8]
      refine wp_be (f_w M _ (i_nm1 (by omega))) (wp_bz (fun _ => wp_be (x4_ref2 M) (wp_some rfl)) (fun e1 => wp_be (f_w M _ (m := 2) (by decide)) (wp_bz (fun _ => wp_be (x4_ref2 M) (wp_some rfl)) (fun e2 => ?_))))
      rw [decide_eq_true_eq] at e1 e2
      exact absurd ⟨e1, e2⟩ hc
    · unfold f_X5_factOf
      rw [(hR.ag (ref4_k M 2) rfl).2.2.2.2.1]
      refine wp_be (f_i _ _ (l := 0) (by decide) (l_nm1 (by omega))) (wp_bz (fun _ => wp_be (x5_ref2 _) (wp_some rfl)) (fun e1 => wp_be (f_i _ _ (l := 0) (m := 2) (by decide) (by decide)) (wp_bz (fun _ => wp_be (x5_ref2 _) (wp_some rfl)) (fun e2 => ?_))))
      rw [decide_eq_true_eq] at e1 e2
      exact absurd ⟨e1, e2⟩ hc
theorem k_slip : ok_slip GT := by
  intro tr b M x1 h
  obtain ⟨⟨D, w, hD, hR⟩, _⟩ := id h
  have w5 := w.2.2.2.2.1
  have w6 := w.2.2.2.2.2.1
  obtain ⟨h1, h2, h3, h4, h5, h6, h7, h8, h9, h10⟩ := id hD
  by_cases hc : 0 ≤ x1.toInt ∧ x1.toInt ≤ (dr D : Int) - 1
  · obtain ⟨i, hi, rfl⟩ := i_nat (m := dr D - 1) (x := x1) ⟨hc.1, by omega⟩
    have hid : i < dr D := by have := hc.2; rw [i_ti (by omega)] at this; omega
    refine gt_q (g := fun N => f_X5_slip N 0 (Int32.ofNat i)) (v := Int32.ofNat (dS D i)) (S4 := []) (S5 := []) h ?_ rfl (fun N hk => ?_) rfl
    · unfold f_X4_slip
      rw [h5, i_cl (x := i) (by omega), h7 i hid]
      exact wp_be (f_w M _ (i_nm1 (by omega))) (wp_neg (bz_dn hc) (wp_inb (by omega) (by omega) (wp_some ⟨rfl, keeps.rf _ _⟩)))
    · have hRN := hR.ag hk rfl
      unfold f_X5_slip
      rw [hRN.2.2.1, i_cl (x := i) (by omega), hRN.2.2.2.1 i hid]
      exact wp_be (f_i _ _ (l := 0) (by decide) (l_nm1 (by omega))) (wp_neg (bz_dn hc) (wp_inb (by omega) (by omega) (wp_some ⟨rfl, keeps.rf _ _⟩)))
  · refine gt_r1 (g := fun N => f_X5_slip N 0 x1) (v := (-2 : Int32)) (w := 2) (by omega) h (wp_is ?_) (wp_is ?_)
    · unfold f_X4_slip
      rw [h5]
      exact wp_be (f_w M _ (i_nm1 (by omega))) (wp_pos (bz_n hc) (wp_be (x4_ref2 M) (wp_some rfl)))
    · unfold f_X5_slip
      rw [(hR.ag (ref4_k M 2) rfl).2.2.1]
      exact wp_be (f_i _ _ (l := 0) (by decide) (l_nm1 (by omega))) (wp_pos (bz_n hc) (wp_be (x5_ref2 _) (wp_some rfl)))
theorem k_lead : ok_lead GT := by
  intro tr b M h
  obtain ⟨⟨D, w, hD, hR⟩, _⟩ := id h
  have w5 := w.2.2.2.2.1
  have w6 := w.2.2.2.2.2.1
  refine ⟨_, _, rfl, wp_is (z := (2 : Int32) * Int32.ofNat (sm (dS D) (dr D)) - Int32.ofNat (dr D)) ?_, ?_⟩
  · unfold f_X5_lead
    rw [hR.2.2.1]
    exact wp_be (r_readA (r := dr D) (by omega) (Nat.le_refl _) hR.2.2.2.1) (wp_some rfl)
  · rw [hD.2.2.2.2.1, hD.2.2.2.2.2.1]
theorem k_again : ok_again GT := by
  intro tr b M h
  obtain ⟨⟨D, w, hD, hR⟩, _⟩ := id h
  obtain ⟨h1, h2, h3, h4, h5, h6, h7, h8, h9, h10⟩ := id hD
  have k4 : keeps [(1, some 0, some 6), (1, some 0, some 7)] M (am_si (am_si M 1 0 0 6 0) 1 0 0 7 0) := ((keeps.rf _ M).si rfl).si rfl
  have k5 : keeps [(5, some 0, some 16)] (am_si (am_si M 1 0 0 6 0) 1 0 0 7 0) (am_si (am_si (am_si M 1 0 0 6 0) 1 0 0 7 0) 5 0 0 16 0) := (keeps.rf _ _).si rfl
  have hR4 := hR.ag k4 rfl
  obtain ⟨q1, q2, q3, q4, q5, q6, q7⟩ := id hR4
  refine ⟨(M.1 1 0 0 6, am_si (am_si M 1 0 0 6 0) 1 0 0 7 0), ((am_si (am_si M 1 0 0 6 0) 1 0 0 7 0).1 5 0 0 16, am_si (am_si (am_si M 1 0 0 6 0) 1 0 0 7 0) 5 0 0 16 0), rfl, rfl, h5.trans q3.symm, gt_d h k4 k5 w.again ⟨?_, ?_, ?_, fun i hi => ⟨?_, ?_, ?_⟩, ?_, ?_, fun i hi => absurd hi (Nat.not_lt_zero i), ?_, fun i hi => ⟨?_, ?_, ?_⟩, ?_⟩ ⟨?_, fun i hi => ⟨?_, ?_, ?_⟩, ?_, fun i hi => absurd hi (Nat.not_lt_zero i), ?_, fun i hi => ⟨?_, ?_, ?_⟩, ?_⟩ rfl rfl rfl⟩
  · rw [si_j (by decide), si_j (by decide)]; exact h1
  · rw [si_j (by decide), si_j (by decide)]; exact h2
  · rw [si_j (by decide), si_j (by decide)]; exact h3
  · rw [si_k (by decide), si_k (by decide)]; exact (h4 i hi).1
  · rw [si_k (by decide), si_k (by decide)]; exact (h4 i hi).2.1
  · rw [si_k (by decide), si_k (by decide)]; exact (h4 i hi).2.2
  · rw [si_j (by decide), am_si_self]
    rfl
  · rw [am_si_self]
    rfl
  · rw [si_j (by decide), si_j (by decide)]; exact h8
  · rw [si_k (by decide), si_k (by decide)]; exact (h9 i hi).1
  · rw [si_k (by decide), si_k (by decide)]; exact (h9 i hi).2.1
  · rw [si_k (by decide), si_k (by decide)]; exact (h9 i hi).2.2
  · rw [si_j (by decide), si_j (by decide)]; exact h10
  · rw [si_j (by decide)]; exact q1
  · rw [si_k (by decide)]; exact (q2 i hi).1
  · rw [si_k (by decide)]; exact (q2 i hi).2.1
  · rw [si_k (by decide)]; exact (q2 i hi).2.2
  · rw [am_si_self]
    rfl
  · rw [si_j (by decide)]; exact q5
  · rw [si_k (by decide)]; exact (q6 i hi).1
  · rw [si_k (by decide)]; exact (q6 i hi).2.1
  · rw [si_k (by decide)]; exact (q6 i hi).2.2
  · rw [si_j (by decide)]; exact q7
theorem DR.sd {M : am_M} {o : Nat} {D : dd} (h : DR M o D) (s : Int32) : DR (am_si M 1 o 0 13 s) o (dSeed D s) := by
  obtain ⟨h1, h2, h3, h4, h5, h6, h7, h8, h9, h10⟩ := h
  refine ⟨?_, ?_, ?_, fun i hi => ⟨?_, ?_, ?_⟩, ?_, ?_, fun i hi => ?_, ?_, fun i hi => ⟨?_, ?_, ?_⟩, ?_⟩
  · rw [si_j (by decide)]; exact h1
  · rw [si_j (by decide)]; exact h2
  · rw [si_j (by decide)]; exact h3
  · rw [si_k (by decide)]; exact (h4 i hi).1
  · rw [si_k (by decide)]; exact (h4 i hi).2.1
  · rw [si_k (by decide)]; exact (h4 i hi).2.2
  · rw [si_j (by decide)]; exact h5
  · rw [si_j (by decide)]; exact h6
  · rw [si_k (by decide)]; exact h7 i hi
  · rw [si_j (by decide)]; exact h8
  · rw [si_k (by decide)]; exact (h9 i hi).1
  · rw [si_k (by decide)]; exact (h9 i hi).2.1
  · rw [si_k (by decide)]; exact (h9 i hi).2.2
  · rw [am_si_self]
    rfl
theorem RF.sd {M : am_M} {o : Nat} {D : dd} (h : RF M o D) (s : Int32) : RF (am_si M 5 o 0 18 s) o (dSeed D s) := by
  obtain ⟨q1, q2, q3, q4, q5, q6, q7⟩ := h
  refine ⟨?_, fun i hi => ⟨?_, ?_, ?_⟩, ?_, fun i hi => ?_, ?_, fun i hi => ⟨?_, ?_, ?_⟩, ?_⟩
  · rw [si_j (by decide)]; exact q1
  · rw [si_k (by decide)]; exact (q2 i hi).1
  · rw [si_k (by decide)]; exact (q2 i hi).2.1
  · rw [si_k (by decide)]; exact (q2 i hi).2.2
  · rw [si_j (by decide)]; exact q3
  · rw [si_k (by decide)]; exact q4 i hi
  · rw [si_j (by decide)]; exact q5
  · rw [si_k (by decide)]; exact (q6 i hi).1
  · rw [si_k (by decide)]; exact (q6 i hi).2.1
  · rw [si_k (by decide)]; exact (q6 i hi).2.2
  · rw [am_si_self]
    rfl
theorem k_seed : ok_seed GT := by
  intro tr b M x1 h
  obtain ⟨⟨D, w, hD, hR⟩, _⟩ := id h
  have k4 : keeps [(1, some 0, some 13)] M (am_si M 1 0 0 13 x1) := (keeps.rf _ M).si rfl
  have k5 : keeps [(5, some 0, some 18)] (am_si M 1 0 0 13 x1) (am_si (am_si M 1 0 0 13 x1) 5 0 0 18 x1) := (keeps.rf _ _).si rfl
  have hR4 := hR.ag k4 rfl
  exact ⟨(M.1 1 0 0 13, am_si M 1 0 0 13 x1), ((am_si M 1 0 0 13 x1).1 5 0 0 18, am_si (am_si M 1 0 0 13 x1) 5 0 0 18 x1), rfl, rfl, hD.2.2.2.2.2.2.2.2.2.trans hR4.2.2.2.2.2.2.symm, gt_d h k4 k5 (w.seed x1) (hD.sd x1) (hR4.sd x1) rfl rfl rfl⟩
theorem k_read : ok_read GT := by
  intro tr b M x1 hx1 h
  obtain ⟨⟨D, w, hD, hR⟩, _⟩ := id h
  have w5 := w.2.2.2.2.1
  have w6 := w.2.2.2.2.2.1
  obtain ⟨x, hx, rfl⟩ : ∃ x, x ≤ 1 ∧ x1 = Int32.ofNat x := by
    rcases hx1 with e | e
    · exact ⟨0, by omega, e⟩
    · exact ⟨1, by omega, e⟩
  obtain ⟨y, e4, hy, k4⟩ := wp_kp (c_take w hD hx) fr_f_X1_take
  rcases hy with ⟨hc, y1, y2⟩ | ⟨hc, rfl⟩
  · have hrn : dr D < dn D := by
      unfold cn at hc
      simp only [Bool.and_eq_true, decide_eq_true_eq] at hc
      exact hc.1
    have hR4 := hR.ag k4 rfl
    have k5 : keeps [(5, some 0, some 16), (617, some 0, none)] y.2 (am_si (am_si y.2 5 0 0 16 (Int32.ofNat (dr D + 1))) 617 0 0 (dr D) (Int32.ofNat x)) := ((keeps.rf _ _).si rfl).si rfl
    refine ⟨(Int32.ofNat (dr D + 1), y.2), (Int32.ofNat (dr D + 1), am_si (am_si y.2 5 0 0 16 (Int32.ofNat (dr D + 1))) 617 0 0 (dr D) (Int32.ofNat x)), wp_is ?_, wp_is ?_, rfl, gt_d h k4 k5 (w.read hx hc) y2 (r_push hR4) rfl rfl rfl⟩
    · unfold f_X4_read
      refine wp_be e4 ?_
      rw [y1]
      exact wp_neg (by decide) (wp_some (by rw [y2.2.2.2.2.1]; rfl))
    · unfold f_X5_read
      rw [hR4.2.2.1]
      refine wp_be (r_isThere w hR4 hx) (wp_neg (by rw [hc]; decide) (wp_let ?_))
      rw [i_s, i_cl (x := dr D) (by omega)]
      refine wp_ieq (y := 0) (by omega) (by omega) (fun e => wp_inb (by omega) (by omega) (wp_let (wp_some ?_))) (fun e => wp_inb (by omega) (by omega) (wp_let (wp_some ?_)))
      · rw [si_k (by decide), am_si_self, e]
        rfl
      · rw [si_k (by decide), am_si_self, show x = 1 from by omega]
        rfl
  · refine gt_r1 (g := fun N => f_X5_read N 0 (Int32.ofNat x)) (v := (-5 : Int32)) (w := 5) (by omega) h (wp_is ?_) (wp_is ?_)
    · unfold f_X4_read
      exact wp_be e4 (wp_pos rfl (wp_be (x4_ref5 M) (wp_some rfl)))
    · unfold f_X5_read
      exact wp_be (r_isThere w (hR.ag (ref4_k M 5) rfl) hx) (wp_pos (by rw [hc]; rfl) (wp_be (x5_ref5 _) (wp_some rfl)))
/-! status -/
theorem c_inUse {M : am_M} (h : gtS M) : ∀ (m j u : Nat), j ≤ 8 → 9 ≤ m + j → ∃ r, l_X4_shelvesInUse_4 M m (Int32.ofNat u) (Int32.ofNat j) = some r ∧ l_X5_status_116 M 0 m (Int32.ofNat u) (Int32.ofNat j) = some r := by
  intro m
  induction m with
  | zero => intro j u h1 h2; omega
  | succ m ih =>
    intro j u hj hm
    by_cases hlt : j < 8
    · obtain ⟨c, hF, _⟩ := sF_c (h j hlt)
      have hc := hF.2.1
      obtain ⟨r, e4, e5⟩ := ih (j + 1) (u + (if c = 0 then 0 else 1)) (by omega) (by omega)
      refine ⟨r, wp_is ?_, wp_is ?_⟩
      · rw [l_X4_shelvesInUse_4, i_cl (x := j) (by omega)]
        refine wp_le (x := 8) (by omega) (by omega) (fun e => absurd e (by omega)) (fun _ => wp_inb hlt (by omega) (wp_be hF.2.2.1 ?_))
        refine wp_call (Q := fun z => z = Int32.ofNat (if c = 0 then 0 else 1)) (wp_bz (fun e => wp_some ?_) (fun e => wp_some ?_)) (fun z hz => wp_let (wp_let ?_))
        · rw [decide_eq_false_iff_not] at e
          rw [if_neg e]; rfl
        · rw [decide_eq_true_eq] at e
          rw [if_pos e]; rfl
        · rw [hz, i_add, i_s]
          exact wp_eq e4 rfl
      · rw [l_X5_status_116, i_cl (x := j) (by omega), hF.1]
        refine wp_le (x := 8) (by omega) (by omega) (fun e => absurd e (by omega)) (fun _ => wp_inb hlt (by omega) ?_)
        refine wp_call (Q := fun z => z = Int32.ofNat (if c = 0 then 0 else 1)) (wp_ieq (y := 0) (by omega) (by omega) (fun e => wp_some (by rw [if_pos e]; rfl)) (fun e => wp_some (by rw [if_neg e]; rfl))) (fun z hz => wp_let (wp_let ?_))
        rw [hz, i_add, i_s]
        exact wp_eq e5 rfl
    · have e : j = 8 := by omega
      subst e
      refine ⟨Int32.ofNat u, wp_is ?_, wp_is ?_⟩
      · rw [l_X4_shelvesInUse_4]
        exact wp_pos (by decide) (wp_some rfl)
      · rw [l_X5_status_116]
        exact wp_pos (by decide) (wp_some rfl)
theorem k_status : ok_status GT := by
  intro tr b M x1 h
  obtain ⟨⟨D, w, hD, hR⟩, hS, hT, hRu, _⟩ := id h
  have w5 := w.2.2.2.2.1
  have w6 := w.2.2.2.2.2.1
  have he := de_le (D := D)
  obtain ⟨h1, h2, h3, h4, h5, h6, h7, h8, h9, h10⟩ := id hD
  obtain ⟨q1, q2, q3, q4, q5, q6, q7⟩ := id hR
  obtain ⟨z, c, hz, t1', t2', t3'⟩ := id hT
  unfold f_X4_status f_X5_status
  by_cases e0 : x1 = 0
  · exact ⟨_, _, if_pos e0, if_pos e0, h1.trans q1.symm⟩
  simp only [if_neg e0]
  by_cases e1 : x1 = 1
  · simp only [if_pos e1]
    exact ⟨_, Int32.ofNat (dn D), rfl, wp_is (wp_be (r_all w.H hR.H) (wp_some rfl)), h2⟩
  simp only [if_neg e1]
  by_cases e2 : x1 = 2
  · simp only [if_pos e2]
    exact ⟨_, _, rfl, rfl, h5.trans q3.symm⟩
  simp only [if_neg e2]
  by_cases e3 : x1 = 3
  · simp only [if_pos e3]
    exact ⟨_, _, rfl, rfl, h8.trans q5.symm⟩
  simp only [if_neg e3]
  by_cases e4 : x1 = 4
  · simp only [if_pos e4]
    exact ⟨_, Int32.ofNat (de D), rfl, wp_is (wp_be (r_allA w.H hR.H) (wp_some rfl)), h3⟩
  simp only [if_neg e4]
  by_cases e5 : x1 = 5
  · simp only [if_pos e5]
    exact ⟨_, Int32.ofNat (dn D) - Int32.ofNat (de D), rfl, wp_is (wp_be (r_all w.H hR.H) (wp_be (r_allA w.H hR.H) (wp_some rfl))), by rw [h2, h3]⟩
  simp only [if_neg e5]
  by_cases e6 : x1 = 6
  · simp only [if_pos e6]
    refine ⟨_, Int32.ofNat (sm (dS D) (dr D)), rfl, wp_is ?_, h6⟩
    rw [q3]
    exact wp_be (r_readA (r := dr D) (by omega) (Nat.le_refl _) q4) (wp_some rfl)
  simp only [if_neg e6]
  by_cases e7 : x1 = 7
  · simp only [if_pos e7]
    exact ⟨_, _, rfl, rfl, t1'.trans t2'.symm⟩
  simp only [if_neg e7]
  by_cases e8 : x1 = 8
  · simp only [if_pos e8]
    exact ⟨_, _, rfl, rfl, h10.trans q7.symm⟩
  simp only [if_neg e8]
  by_cases e9 : x1 = 9
  · simp only [if_pos e9]
    obtain ⟨r, l4, l5⟩ := c_inUse hS 1000 0 0 (by omega) (by omega)
    refine ⟨r, r, wp_is ?_, wp_is ?_, rfl⟩
    · unfold f_X4_shelvesInUse
      exact wp_call (wp_be l4 (wp_some rfl)) (fun y hy => wp_some hy.symm)
    · exact wp_be l5 (wp_some rfl)
  simp only [if_neg e9]
  by_cases e10 : x1 = 10
  · simp only [if_pos e10]
    exact ⟨_, _, wp_is (wp_be (c_heapNow w hD) (wp_some rfl)), wp_is (wp_be (r_heapAt w hR) (wp_some rfl)), rfl⟩
  simp only [if_neg e10]
  have t12 : (12 : Int32).toInt = 12 := by decide
  have t10 : (10 : Int32).toInt = 10 := by decide
  have t5 : (5 : Int32).toInt = 5 := by decide
  by_cases hc : 12 ≤ x1.toInt ∧ x1.toInt ≤ 16
  · obtain ⟨i, hi, rfl⟩ := i_nat (m := 16) (x := x1) ⟨by omega, by omega⟩
    have h12 : 12 ≤ i := by have := hc.1; rw [i_ti (by omega)] at this; omega
    have hu := hRu (i - 12) (by omega)
    rw [if_neg (by omega), Int32.add_zero, show i - 12 + 2 = i - 10 from by omega] at hu
    refine ⟨M.1 507 0 0 (i - 12), M.1 609 0 0 (i - 10), wp_is ?_, wp_is ?_, hu⟩
    · rw [show (12 : Int32) = Int32.ofNat 12 from rfl, i_sub h12, i_cl (by omega)]
      exact wp_lt (by omega) (by omega) (fun e => absurd e (by omega)) (fun _ => wp_le (x := 5) (by omega) (by omega) (fun e => absurd e (by omega)) (fun _ => wp_inb (by omega) (by omega) (wp_some rfl)))
    · rw [show (10 : Int32) = Int32.ofNat 10 from rfl, i_sub (by omega), i_cl (by omega)]
      exact wp_be (f_i M _ (l := 12) (m := 16) (by decide) (by decide)) (wp_neg (bz_dn hc) (wp_inb (by omega) (by omega) (wp_some rfl)))
  · refine ⟨-1, -1, wp_is ?_, wp_is ?_, rfl⟩
    · refine wp_ti (fun _ => wp_some rfl) (fun g1 => wp_tl (fun _ => wp_some rfl) (fun g2 => ?_))
      have hb := Int32.toInt_lt x1
      rw [t12] at g1
      rw [i_tsub (by rw [t12]; omega) (by rw [t12]; omega), t12, t5] at g2
      exact absurd ⟨g1, by omega⟩ hc
    · exact wp_be (f_i M _ (l := 12) (m := 16) (by decide) (by decide)) (wp_pos (bz_n hc) (wp_some rfl))
