/-! set, copy, element, holds -/
theorem gt_r1 {α : Type} {x : Option (α × am_M)} {g : am_M → Option (α × am_M)} {v : α} {M : am_M} {tr b : Bool} {w : Nat} (hw : 2 ≤ w) (h : GT tr b M) (h4 : x = some (v, ref4 M w)) (h5 : g (ref4 M w) = some (v, ref5 (ref4 M w) w)) : ∃ y z, x = some y ∧ g y.2 = some z ∧ y.1 = z.1 ∧ GT tr b z.2 :=
  ⟨_, _, h4, h5, rfl, gt_ref5 hw (gt_ref4 hw h)⟩
theorem i_nm1 {n : Nat} (h : n ≤ 1000) : (Int32.ofNat n - 1).toInt = (n : Int) - 1 := by
  rw [i_tsub (by rw [i_ti (by omega), t1]; omega) (by rw [i_ti (by omega), t1]; omega), i_ti (by omega), t1]
theorem l_nm1 {n : Nat} (h : n ≤ 1000) : ((Int32.ofNat n - 1).toInt64).toInt = (n : Int) - 1 := by
  rw [Int32.toInt_toInt64, i_nm1 h]
theorem c_hasEl {M : am_M} {s n : Nat} (h : M.1 2 s 0 1 = Int32.ofNat n) (hn : n ≤ 40) (x : Int32) : f_X2_hasElement M s x = some (bz (decide (0 ≤ x.toInt ∧ x.toInt ≤ (n : Int) - 1))) := by
  unfold f_X2_hasElement
  rw [h]
  exact wp_is (wp_be (f_w M x (i_nm1 (by omega))) (wp_pos (bz_01 _) (wp_some rfl)))
def fitv (k : Nat) (v : Int64) : Int64 := if k = 0 then v.toInt32.toInt8.toInt32.toInt64 else if k = 1 then v.toInt32.toInt16.toInt32.toInt64 else if k = 2 then v.toInt32.toInt64 else if k = 3 then v else if lg_cmp v 0 = 0 then 0 else 1
theorem r_fit (M : am_M) {k : Nat} (hk : k ≤ 4) (v : Int64) : f_X5_fit M (Int32.ofNat k) v = some (fitv k v) := by
  unfold f_X5_fit fitv
  refine wp_is (wp_ieq (y := 0) (by omega) (by omega) (fun e => wp_some (by rw [if_pos e])) (fun e0 => wp_ieq (y := 1) (by omega) (by omega) (fun e => wp_some (by rw [if_neg e0, if_pos e])) (fun e1 => wp_ieq (y := 2) (by omega) (by omega) (fun e => wp_some (by rw [if_neg e0, if_neg e1, if_pos e])) (fun e2 => wp_ieq (y := 3) (by omega) (by omega) (fun e => wp_some (by rw [if_neg e0, if_neg e1, if_neg e2, if_pos e])) (fun e3 => wp_ite (fun e => wp_some ?_) (fun e => wp_some ?_))))))
  · rw [if_neg e0, if_neg e1, if_neg e2, if_neg e3, if_pos e]
  · rw [if_neg e0, if_neg e1, if_neg e2, if_neg e3, if_neg e]
theorem c_put {M : am_M} {s k i : Nat} (hk : k ≤ 4) (hi : i < 40) (h : M.1 2 s 0 0 = Int32.ofNat k) (v : Int64) : f_X2_put M s (Int32.ofNat i) v = some (am_sl M 303 s 0 i (fitv k v)) := by
  unfold f_X2_put fitv
  rw [h, i_cl (x := i) (by omega)]
  refine wp_is (wp_ieq (y := 0) (by omega) (by omega) (fun e => wp_inb hi (by omega) (wp_let (wp_some (by rw [if_pos e])))) (fun e0 => wp_ieq (y := 1) (by omega) (by omega) (fun e => wp_inb hi (by omega) (wp_let (wp_some (by rw [if_neg e0, if_pos e])))) (fun e1 => wp_ieq (y := 2) (by omega) (by omega) (fun e => wp_inb hi (by omega) (wp_let (wp_some (by rw [if_neg e0, if_neg e1, if_pos e])))) (fun e2 => wp_ieq (y := 3) (by omega) (by omega) (fun e => wp_inb hi (by omega) (wp_let (wp_some (by rw [if_neg e0, if_neg e1, if_neg e2, if_pos e])))) (fun e3 => wp_ieq (y := 4) (by omega) (by omega) (fun e4 => wp_ite (fun e => wp_inb hi (by omega) (wp_let (wp_some ?_))) (fun e => wp_inb hi (by omega) (wp_let (wp_some ?_)))) (fun e4 => absurd e4 (by omega)))))))
  · rw [if_neg e0, if_neg e1, if_neg e2, if_neg e3, if_pos e]
  · rw [if_neg e0, if_neg e1, if_neg e2, if_neg e3, if_neg e]
theorem k_set : ok_set GT := by
  intro tr b M x1 x2 x3 h
  by_cases hc : 0 ≤ x1.toInt ∧ x1.toInt ≤ 7
  · obtain ⟨s, hs, rfl⟩ := i_nat (m := 7) hc
    have hs8 : s < 8 := by omega
    obtain ⟨c, hF, hr, hd⟩ := sF_c (h.2.1 s hs8)
    have ea := c_agR (M := M) hs8 hs8 hF hF
    have c3 : c = 2 ∨ c = 0 ∨ c = 1 := by have := hF.2.1; omega
    have en := r_noRow (M := ref4 M 3) hs8 ((ref4_600 M 3 s).trans hF.1) hF.2.1
    have en' := r_noRow (M := ref4 M 4) hs8 ((ref4_600 M 4 s).trans hF.1) hF.2.1
    rcases c3 with rfl | rfl | rfl
    · rw [if_pos (Or.inl rfl)] at ea
      rw [if_pos rfl] at en
      refine gt_r1 (g := fun N => f_X5_set N 0 (Int32.ofNat s) x2 x3) (v := (-3 : Int32)) (w := 3) (by omega) h (wp_is ?_) (wp_is ?_)
      · unfold f_X4_set
        exact wp_be ea (wp_neg (by decide) (wp_be (x4_ref3 M) (wp_some rfl)))
      · unfold f_X5_set
        exact wp_be en (wp_let (wp_neg (show ¬ (-3 : Int32) = 0 from by decide) (wp_some rfl)))
    · rw [if_neg (by decide), if_pos (Or.inl rfl)] at ea
      rw [if_neg (by decide), if_pos rfl] at en'
      refine gt_r1 (g := fun N => f_X5_set N 0 (Int32.ofNat s) x2 x3) (v := (-4 : Int32)) (w := 4) (by omega) h (wp_is ?_) (wp_is ?_)
      · unfold f_X4_set
        exact wp_be ea (wp_neg (by decide) (wp_be (x4_ref4 M) (wp_some rfl)))
      · unfold f_X5_set
        exact wp_be en' (wp_let (wp_neg (show ¬ (-4 : Int32) = 0 from by decide) (wp_some rfl)))
    · rw [if_neg (by decide), if_neg (by decide)] at ea
      obtain ⟨k, n, hR⟩ := hr rfl
      obtain ⟨k4, n4, q1, q2, q3, q4, q5, q6⟩ := id hR
      by_cases hi : 0 ≤ x2.toInt ∧ x2.toInt ≤ (n : Int) - 1
      · obtain ⟨i, hi2, rfl⟩ := i_nat (x := x2) (m := 39) ⟨hi.1, by omega⟩
        have hin : i < n := by have := hi.2; rw [i_ti (by omega)] at this; omega
        have en1 := r_noRow (M := am_sl M 303 s 0 i (fitv k x3)) (c := 1) hs8 q2 (by omega)
        rw [if_neg (by decide), if_neg (by decide)] at en1
        refine ⟨(1, am_sl M 303 s 0 i (fitv k x3)), (1, am_sl (am_sl M 303 s 0 i (fitv k x3)) 703 0 s i (fitv k x3)), wp_is ?_, wp_is ?_, rfl, ?_⟩
        · unfold f_X4_set
          rw [i_cl (x := s) (by omega)]
          exact wp_be ea (wp_pos rfl (wp_inb hs8 (by omega) (wp_be (c_hasEl q4 n4 _) (wp_neg (bz_dn hi) (wp_inb hs8 (by omega) (wp_be (c_put k4 (by omega) q1 x3) (wp_some rfl)))))))
        · unfold f_X5_set
          rw [i_cl (x := s) (by omega), i_cl (x := i) (by omega)]
          refine wp_be en1 (wp_let (wp_pos rfl (wp_inb hs8 (by omega) ?_)))
          rw [sl_i, q5, q3]
          exact wp_be (f_i _ _ (l := 0) (by decide) (l_nm1 (by omega))) (wp_neg (bz_dn hi) (wp_inb hs8 (by omega) (wp_inb hs8 (by omega) (wp_be (r_fit _ k4 x3) (wp_inb (by omega) (by omega) (wp_let (wp_some rfl)))))))
        · obtain ⟨⟨D, w1, w2, w3⟩, h2, h3, h4, h5⟩ := h
          have kM : keeps [(303, none, none), (703, some 0, none)] M (am_sl (am_sl M 303 s 0 i (fitv k x3)) 703 0 s i (fitv k x3)) := ((keeps.rf _ M).sl rfl).sl rfl
          refine ⟨⟨D, w1, w2.ag kM rfl, w3.ag kM rfl⟩, fun t ht => ?_, h3.ag kM rfl, h4.ag kM rfl, h5.ag kM rfl rfl rfl⟩
          by_cases hts : t = s
          · subst hts
            refine Or.inr (Or.inl ⟨k, n, k4, n4, q1, q2, q3, q4, q5, fun j hj => ?_⟩)
            rw [sl_k (by decide), sl_e, sl_e, sl_k (by decide), q6 j hj]
          · refine (h2 t ht).cong (fun j => rfl) (fun j => ?_) rfl rfl rfl rfl rfl (fun j => ?_)
            · rw [sl_k (by decide), am_sl_ne (fun z => hts z.2.1)]
            · rw [am_sl_ne (fun z => hts z.2.2.1), sl_k (by decide)]
      · refine gt_r1 (g := fun N => f_X5_set N 0 (Int32.ofNat s) x2 x3) (v := (-2 : Int32)) (w := 2) (by omega) h (wp_is ?_) (wp_is ?_)
        · unfold f_X4_set
          rw [i_cl (x := s) (by omega)]
          exact wp_be ea (wp_pos rfl (wp_inb hs8 (by omega) (wp_be (c_hasEl q4 n4 _) (wp_pos (bz_n hi) (wp_be (x4_ref2 M) (wp_some rfl))))))
        · have en2 := r_noRow (M := ref4 M 2) (c := 1) hs8 ((ref4_600 M 2 s).trans q2) (by omega)
          rw [if_neg (by decide), if_neg (by decide)] at en2
          unfold f_X5_set
          rw [i_cl (x := s) (by omega)]
          refine wp_be en2 (wp_let (wp_pos rfl (wp_inb hs8 (by omega) ?_)))
          have e602 : (ref4 M 2).1 602 0 0 s = Int32.ofNat n := (si_k (by decide)).trans q5
          dsimp only
          rw [e602]
          exact wp_be (f_i _ _ (l := 0) (by decide) (l_nm1 (by omega))) (wp_pos (bz_n hi) (wp_be (x5_ref2 _) (wp_some rfl)))
  · refine gt_r0 (g := fun N => f_X5_set N 0 x1 x2 x3) (v := (-2 : Int32)) (w := 2) (by omega) h (wp_is ?_) (fun N => wp_is ?_)
    · unfold f_X4_set
      exact wp_be (c_agN (fun z => hc z.1)) (wp_neg (by decide) (wp_be (x4_ref2 M) (wp_some rfl)))
    · unfold f_X5_set
      exact wp_be (r_noRowN hc) (wp_let (wp_neg (show ¬ (-2 : Int32) = 0 from by decide) (wp_some rfl)))
theorem k_element : ok_element GT := by
  intro tr b M x1 x2 h
  by_cases hc : 0 ≤ x1.toInt ∧ x1.toInt ≤ 7
  · obtain ⟨s, hs, rfl⟩ := i_nat (m := 7) hc
    have hs8 : s < 8 := by omega
    obtain ⟨c, hF, hr, hd⟩ := sF_c (h.2.1 s hs8)
    by_cases c1 : c = 1
    · subst c1
      obtain ⟨k, n, hR⟩ := hr rfl
      obtain ⟨k4, n4, q1, q2, q3, q4, q5, q6⟩ := id hR
      by_cases hi : 0 ≤ x2.toInt ∧ x2.toInt ≤ (n : Int) - 1
      · obtain ⟨i, hi2, rfl⟩ := i_nat (x := x2) (m := 39) ⟨hi.1, by omega⟩
        refine ⟨M.2 303 s 0 i, M.2 703 0 s i, wp_is ?_, wp_is ?_, q6 i (by omega)⟩
        · unfold f_X4_element
          rw [i_cl (x := s) (by omega), i_cl (x := i) (by omega)]
          exact wp_be (f_sh M _) (wp_neg (bz_dn hc) (wp_inb hs8 (by omega) (wp_be hF.2.2.2.1 (wp_neg (by decide) (wp_inb hs8 (by omega) (wp_be (c_hasEl q4 n4 _) (wp_neg (bz_dn hi) (wp_inb hs8 (by omega) (wp_inb (by omega) (by omega) (wp_some rfl))))))))))
        · unfold f_X5_element
          rw [i_cl (x := s) (by omega), i_cl (x := i) (by omega), q2, q5]
          exact wp_be (f_i M _ (l := 0) (m := 7) (by decide) (by decide)) (wp_neg (bz_dn hc) (wp_inb hs8 (by omega) (wp_pos rfl (wp_inb hs8 (by omega) (wp_be (f_i _ _ (l := 0) (by decide) (l_nm1 (by omega))) (wp_neg (bz_dn hi) (wp_inb hs8 (by omega) (wp_inb (by omega) (by omega) (wp_some rfl)))))))))
      · refine ⟨0, 0, wp_is ?_, wp_is ?_, rfl⟩
        · unfold f_X4_element
          rw [i_cl (x := s) (by omega)]
          exact wp_be (f_sh M _) (wp_neg (bz_dn hc) (wp_inb hs8 (by omega) (wp_be hF.2.2.2.1 (wp_neg (by decide) (wp_inb hs8 (by omega) (wp_be (c_hasEl q4 n4 _) (wp_pos (bz_n hi) (wp_some rfl))))))))
        · unfold f_X5_element
          rw [i_cl (x := s) (by omega), q2, q5]
          exact wp_be (f_i M _ (l := 0) (m := 7) (by decide) (by decide)) (wp_neg (bz_dn hc) (wp_inb hs8 (by omega) (wp_pos rfl (wp_inb hs8 (by omega) (wp_be (f_i _ _ (l := 0) (by decide) (l_nm1 (by omega))) (wp_pos (bz_n hi) (wp_some rfl)))))))
    · refine ⟨0, 0, wp_is ?_, wp_is ?_, rfl⟩
      · unfold f_X4_element
        rw [i_cl (x := s) (by omega)]
        exact wp_be (f_sh M _) (wp_neg (bz_dn hc) (wp_inb hs8 (by omega) (wp_be hF.2.2.2.1 (wp_pos (bz_n c1) (wp_some rfl)))))
      · unfold f_X5_element
        rw [i_cl (x := s) (by omega), hF.1]
        have := hF.2.1
        exact wp_be (f_i M _ (l := 0) (m := 7) (by decide) (by decide)) (wp_neg (bz_dn hc) (wp_inb hs8 (by omega) (wp_ieq (y := 1) (by omega) (by omega) (fun e => absurd e c1) (fun _ => wp_some rfl))))
  · refine ⟨0, 0, wp_is ?_, wp_is ?_, rfl⟩
    · unfold f_X4_element
      exact wp_be (f_sh M _) (wp_pos (bz_n hc) (wp_some rfl))
    · unfold f_X5_element
      exact wp_be (f_i M _ (l := 0) (m := 7) (by decide) (by decide)) (wp_pos (bz_n hc) (wp_some rfl))
theorem k_holds : ok_holds GT := by
  intro tr b M x1 h
  by_cases hc : 0 ≤ x1.toInt ∧ x1.toInt ≤ 7
  · obtain ⟨s, hs, rfl⟩ := i_nat (m := 7) hc
    have hs8 : s < 8 := by omega
    have e4 : f_X4_holds M (Int32.ofNat s) = some (M.1 2 s 0 0) := by
      unfold f_X4_holds
      rw [i_cl (x := s) (by omega)]
      exact wp_is (wp_be (f_sh M _) (wp_neg (bz_dn hc) (wp_inb hs8 (by omega) (wp_some rfl))))
    refine ⟨M.1 2 s 0 0, M.1 2 s 0 0, e4, wp_is ?_, rfl⟩
    unfold f_X5_holds
    rw [i_cl (x := s) (by omega)]
    refine wp_be (f_i M _ (l := 0) (m := 7) (by decide) (by decide)) (wp_neg (bz_dn hc) (wp_inb hs8 (by omega) ?_))
    rcases h.2.1 s hs8 with ⟨q1, q2⟩ | ⟨k, n, k4, n4, q1, q2, q3, _⟩ | ⟨k, a, k1, k6, a9, q1, q2, q3, _⟩
    · rw [q1, q2]
      exact wp_pos rfl (wp_some rfl)
    · rw [q1, q2, q3]
      exact wp_neg (by decide) (wp_inb hs8 (by omega) (wp_pos rfl (wp_inb hs8 (by omega) (wp_some rfl))))
    · rw [q1, q2, q3]
      exact wp_neg (by decide) (wp_inb hs8 (by omega) (wp_neg (by decide) (wp_inb hs8 (by omega) (wp_some (by rw [show (10 : Int32) = Int32.ofNat 10 from rfl, i_add])))))
  · refine ⟨-1, -1, wp_is ?_, wp_is ?_, rfl⟩
    · unfold f_X4_holds
      exact wp_be (f_sh M _) (wp_pos (bz_n hc) (wp_some rfl))
    · unfold f_X5_holds
      exact wp_be (f_i M _ (l := 0) (m := 7) (by decide) (by decide)) (wp_pos (bz_n hc) (wp_some rfl))
