/-! shelves -/
theorem beq_ne {s t : Nat} (h : s ≠ t) : Nat.beq s t = false := by
  cases hb : Nat.beq s t with
  | false => rfl
  | true => exact absurd (kp_beq.mp hb) h
theorem kpS_o {k k' o o' j : Nat} (h : o ≠ o') : kpS [(k, some o, none)] k' o' j = false := by
  unfold kpS
  rw [List.any_cons]
  show (Nat.beq k k' && Nat.beq o o' && true || false) = false
  rw [beq_ne h]
  simp
theorem gtSs.cong {M N : am_M} {s : Nat} (h : gtSs M s) (a1 : ∀ j, N.1 2 s 0 j = M.1 2 s 0 j) (a2 : ∀ j, N.2 303 s 0 j = M.2 303 s 0 j) (a3 : N.1 600 0 0 s = M.1 600 0 0 s) (a4 : N.1 601 0 0 s = M.1 601 0 0 s) (a5 : N.1 602 0 0 s = M.1 602 0 0 s) (a6 : N.1 605 0 0 s = M.1 605 0 0 s) (a7 : N.1 606 0 0 s = M.1 606 0 0 s) (a8 : ∀ j, N.2 703 0 s j = M.2 703 0 s j) : gtSs N s := by
  unfold gtSs
  simp only [a1, a2, a3, a4, a5, a6, a7, a8]
  exact h
/-- what a shelf holds, as both see it: 0 nothing, 1 a row, 2 a drawing -/
def sF (M : am_M) (s c : Nat) : Prop := M.1 600 0 0 s = Int32.ofNat c ∧ c ≤ 2 ∧ f_X2_isEmpty M s = some (bz (decide (c = 0))) ∧ f_X2_isRow M s = some (bz (decide (c = 1))) ∧ f_X2_isDrawing M s = some (bz (decide (c = 2)))
def sR (M : am_M) (s k n : Nat) : Prop := k ≤ 4 ∧ n ≤ 40 ∧ M.1 2 s 0 0 = Int32.ofNat k ∧ M.1 600 0 0 s = 1 ∧ M.1 601 0 0 s = Int32.ofNat k ∧ M.1 2 s 0 1 = Int32.ofNat n ∧ M.1 602 0 0 s = Int32.ofNat n ∧ ∀ j, j < 40 → M.2 303 s 0 j = M.2 703 0 s j
def sD (M : am_M) (s k a : Nat) : Prop := 1 ≤ k ∧ k ≤ 6 ∧ a ≤ 9 ∧ M.1 2 s 0 0 = Int32.ofNat (10 + k) ∧ M.1 600 0 0 s = 2 ∧ M.1 605 0 0 s = Int32.ofNat k ∧ M.1 606 0 0 s = Int32.ofNat a ∧ M.1 2 s 0 2 = Int32.ofNat a
theorem sF_of {M : am_M} {s : Nat} (h : gtSs M s) : sF M s 0 ∨ (sF M s 1 ∧ ∃ k n, sR M s k n) ∨ (sF M s 2 ∧ ∃ k a, sD M s k a) := by
  rcases h with ⟨h1, h2⟩ | ⟨k, n, h⟩ | ⟨k, a, h⟩
  · refine Or.inl ⟨h2, by omega, wp_is ?_, wp_is ?_, wp_is ?_⟩
    · unfold f_X2_isEmpty
      exact wp_pos h1 (wp_some rfl)
    · unfold f_X2_isRow
      rw [h1]
      exact wp_pos (by decide) (wp_some rfl)
    · unfold f_X2_isDrawing
      rw [h1]
      exact wp_pos (by decide) (wp_some rfl)
  · obtain ⟨k4, n4, e1, e2, e3⟩ := id h
    refine Or.inr (Or.inl ⟨⟨e2, by omega, wp_is ?_, wp_is ?_, wp_is ?_⟩, k, n, h⟩)
    · unfold f_X2_isEmpty
      rw [e1]
      exact wp_neg (fun z => by rw [← Int32.toInt_inj, i_ti (by omega)] at z; have : (-1 : Int32).toInt = -1 := by decide
                                omega) (wp_some rfl)
    · unfold f_X2_isRow
      rw [e1]
      exact wp_neg (i_0l k (by omega)) (wp_le (x := 5) (by omega) (by omega) (fun h => absurd h (by omega)) (fun _ => wp_some rfl))
    · unfold f_X2_isDrawing
      rw [e1]
      exact wp_lt (y := 10) (by omega) (by omega) (fun _ => wp_some rfl) (fun h => absurd h (by omega))
  · obtain ⟨k4, n4, a9, e1, e2, e3⟩ := id h
    refine Or.inr (Or.inr ⟨⟨e2, by omega, wp_is ?_, wp_is ?_, wp_is ?_⟩, k, a, h⟩)
    · unfold f_X2_isEmpty
      rw [e1]
      exact wp_neg (fun z => by rw [← Int32.toInt_inj, i_ti (by omega)] at z; have : (-1 : Int32).toInt = -1 := by decide
                                omega) (wp_some rfl)
    · unfold f_X2_isRow
      rw [e1]
      exact wp_neg (i_0l (10 + k) (by omega)) (wp_le (x := 5) (by omega) (by omega) (fun _ => wp_some rfl) (fun h => absurd h (by omega)))
    · unfold f_X2_isDrawing
      rw [e1]
      exact wp_lt (y := 10) (by omega) (by omega) (fun h => absurd h (by omega)) (fun _ => wp_some rfl)
theorem sF_c {M : am_M} {s : Nat} (h : gtSs M s) : ∃ c, sF M s c ∧ (c = 1 → ∃ k n, sR M s k n) ∧ (c = 2 → ∃ k a, sD M s k a) := by
  rcases sF_of h with h | ⟨h, r⟩ | ⟨h, r⟩
  · exact ⟨0, h, fun e => absurd e (by decide), fun e => absurd e (by decide)⟩
  · exact ⟨1, h, fun _ => r, fun e => absurd e (by decide)⟩
  · exact ⟨2, h, fun e => absurd e (by decide), fun _ => r⟩
theorem c_agR {M : am_M} {p q c d : Nat} (hp : p < 8) (hq : q < 8) (h1 : sF M p c) (h2 : sF M q d) : f_X4_againstRows M (Int32.ofNat p) (Int32.ofNat q) = some (if c = 2 ∨ d = 2 then (-3 : Int32) else if c = 0 ∨ d = 0 then (-4 : Int32) else 0) := by
  unfold f_X4_againstRows
  rw [i_cl (x := p) (by omega), i_cl (x := q) (by omega)]
  refine wp_is (wp_be (f_sh M _) (wp_neg (bz_dn (by rw [i_ti (by omega)]; omega)) (wp_be (f_sh M _) (wp_neg (bz_dn (by rw [i_ti (by omega)]; omega)) (wp_inb hp (by omega) (wp_be h1.2.2.2.2 (wp_bz (fun e1 => wp_inb hq (by omega) (wp_be h2.2.2.2.2 (wp_bz (fun e2 => wp_inb hp (by omega) (wp_be h1.2.2.1 (wp_bz (fun e3 => wp_inb hq (by omega) (wp_be h2.2.2.1 (wp_bz (fun e4 => wp_some ?_) (fun e4 => wp_some ?_)))) (fun e3 => wp_some ?_)))) (fun e2 => wp_some ?_)))) (fun e1 => wp_some ?_))))))))
  · rw [decide_eq_false_iff_not] at e1 e2 e3 e4
    rw [if_neg (by omega), if_neg (by omega)]
  · rw [decide_eq_false_iff_not] at e1 e2 e3
    rw [decide_eq_true_eq] at e4
    rw [if_neg (by omega), if_pos (by omega)]
  · rw [decide_eq_false_iff_not] at e1 e2
    rw [decide_eq_true_eq] at e3
    rw [if_neg (by omega), if_pos (by omega)]
  · rw [decide_eq_true_eq] at e2
    rw [if_pos (by omega)]
  · rw [decide_eq_true_eq] at e1
    rw [if_pos (by omega)]
theorem c_agN {M : am_M} {p q : Int32} (h : ¬ ((0 ≤ p.toInt ∧ p.toInt ≤ 7) ∧ (0 ≤ q.toInt ∧ q.toInt ≤ 7))) : f_X4_againstRows M p q = some (-2 : Int32) := by
  unfold f_X4_againstRows
  refine wp_is (wp_be (f_sh M _) (wp_bz (fun _ => wp_some rfl) (fun e1 => wp_be (f_sh M _) (wp_bz (fun _ => wp_some rfl) (fun e2 => ?_)))))
  rw [decide_eq_true_eq] at e1 e2
  exact absurd ⟨e1, e2⟩ h
theorem r_noRow {M : am_M} {s c : Nat} (hs : s < 8) (h : M.1 600 0 0 s = Int32.ofNat c) (hc : c ≤ 2) : f_X5_noRow M 0 (Int32.ofNat s) = some (if c = 2 then ((-3 : Int32), ref5 M 3) else if c = 0 then ((-4 : Int32), ref5 M 4) else (0, M)) := by
  unfold f_X5_noRow
  rw [i_cl (x := s) (by omega), h]
  refine wp_is (wp_be (f_i M _ (l := 0) (m := 7) (by decide) (by decide)) (wp_neg (bz_dn (by rw [i_ti (by omega)]; omega)) (wp_inb hs (by omega) (wp_ieq (y := 2) (by omega) (by omega) (fun e => wp_be (x5_ref3 M) (wp_some ?_)) (fun e => wp_inb hs (by omega) (wp_ieq (y := 0) (by omega) (by omega) (fun e' => wp_be (x5_ref4 M) (wp_some ?_)) (fun e' => wp_some ?_)))))))
  · rw [if_pos e]
  · rw [if_neg e, if_pos e']
  · rw [if_neg e, if_neg e']
theorem r_noRowN {M : am_M} {x : Int32} (h : ¬ (0 ≤ x.toInt ∧ x.toInt ≤ 7)) : f_X5_noRow M 0 x = some ((-2 : Int32), ref5 M 2) := by
  unfold f_X5_noRow
  exact wp_is (wp_be (f_i M _ (l := 0) (m := 7) (by decide) (by decide)) (wp_pos (bz_n h) (wp_be (x5_ref2 M) (wp_some rfl))))
theorem ref4_600 (M : am_M) (w s : Nat) : (ref4 M w).1 600 0 0 s = M.1 600 0 0 s := si_k (by decide)
/-! row -/
theorem r_row67 {s : Nat} (hs : s < 8) : ∀ (m j : Nat) (M : am_M), j ≤ 40 → 41 ≤ m + j → wp (l_X5_row_67 0 (Int32.ofNat s) m (Int32.ofNat j) M) (fun N => ∀ t i, N.2 703 0 t i = if t = s ∧ j ≤ i ∧ i < 40 then 0 else M.2 703 0 t i) := by
  intro m
  induction m with
  | zero => intro j M h1 h2; omega
  | succ m ih =>
    intro j M hj hm
    rw [l_X5_row_67, i_cl (x := s) (by omega), i_cl (x := j) (by omega)]
    refine wp_le (x := 40) (by omega) (by omega) (fun h => wp_some (fun t i => by rw [if_neg (by omega)])) (fun h => ?_)
    refine wp_inb hs (by omega) (wp_inb (by omega) (by omega) (wp_let (wp_let ?_)))
    rw [i_s]
    refine wp_mono (ih (j + 1) _ (by omega) (by omega)) (fun N hN t i => ?_)
    rw [hN t i, sl2]
    by_cases hc : t = s ∧ i = j
    · rw [if_neg (show ¬ (t = s ∧ j + 1 ≤ i ∧ i < 40) from by omega), if_pos hc, if_pos (show t = s ∧ j ≤ i ∧ i < 40 from by omega)]
    · by_cases hd : t = s ∧ j ≤ i ∧ i < 40
      · rw [if_pos hd, if_pos (show t = s ∧ j + 1 ≤ i ∧ i < 40 from by omega)]
      · rw [if_neg hd, if_neg (show ¬ (t = s ∧ j + 1 ≤ i ∧ i < 40) from by omega), if_neg hc]
theorem k_row : ok_row GT := by
  intro tr b M x1 x2 x3 h
  by_cases hc : (0 ≤ x1.toInt ∧ x1.toInt ≤ 7) ∧ (0 ≤ x2.toInt ∧ x2.toInt ≤ 4) ∧ (0 ≤ x3.toInt ∧ x3.toInt ≤ 40)
  · obtain ⟨c1, c2, c3⟩ := hc
    obtain ⟨s, hs, rfl⟩ := i_nat (m := 7) c1
    obtain ⟨k, hk, rfl⟩ := i_nat (m := 4) c2
    obtain ⟨n, hn, rfl⟩ := i_nat (m := 40) c3
    obtain ⟨N, e4, hN, kN⟩ := wp_km (c_fill2 (M := am_si (am_si M 2 s 0 0 (Int32.ofNat k)) 2 s 0 1 (Int32.ofNat n)) (k := 303) (p := s) (q := 0) (n := 40) (x := (0 : Int64)) (by omega)) fr_f_J7_fill_d0a16
    obtain ⟨N', e5, hN', kN'⟩ := wp_km (r_row67 (s := s) (by omega) 1000 0 (am_si (am_si (am_si N 600 0 0 s 1) 601 0 0 s (Int32.ofNat k)) 602 0 0 s (Int32.ofNat n)) (by omega) (by omega)) (fr_l_X5_row_67 _ _ _)
    have kM : keeps [(2, none, none), (303, none, none)] M N := keeps.trans (((keeps.rf _ M).si rfl).si rfl) (kN.mono rfl)
    have kM' : keeps [(600, some 0, none), (601, some 0, none), (602, some 0, none), (703, some 0, none)] N N' := keeps.trans ((((keeps.rf _ N).si rfl).si rfl).si rfl) (kN'.mono rfl)
    refine ⟨(1, N), (1, N'), wp_is ?_, wp_is ?_, rfl, ?_⟩
    · unfold f_X4_row
      refine wp_be (f_sh M _) (wp_neg (bz_dn c1) (wp_be (f_w M _ (m := 4) (by decide)) (wp_neg (bz_dn c2) (wp_be (f_w M _ (m := 40) (by decide)) (wp_neg (bz_dn c3) (wp_inb (by omega) (by omega) ?_))))))
      rw [i_cl (by omega)]
      unfold f_X2_becomeRow
      exact wp_call (wp_let (wp_let (wp_be e4 (wp_some rfl)))) (fun y hy => wp_some (by rw [hy]))
    · unfold f_X5_row
      refine wp_be (f_i N _ (l := 0) (m := 7) (by decide) (by decide)) (wp_neg (bz_dn c1) (wp_be (f_i N _ (l := 0) (m := 4) (by decide) (by decide)) (wp_neg (bz_dn c2) (wp_be (f_i N _ (l := 0) (m := 40) (by decide) (by decide)) (wp_neg (bz_dn c3) (wp_inb (by omega) (by omega) (wp_let (wp_inb (by omega) (by omega) (wp_let (wp_inb (by omega) (by omega) (wp_let ?_)))))))))))
      rw [i_cl (by omega)]
      exact wp_be e5 (wp_some rfl)
    · obtain ⟨⟨D, w1, w2, w3⟩, h2, h3, h4, h5⟩ := h
      refine ⟨⟨D, w1, (w2.ag kM rfl).ag kM' rfl, (w3.ag kM rfl).ag kM' rfl⟩, fun t ht => ?_, (h3.ag kM rfl).ag kM' rfl, (h4.ag kM rfl).ag kM' rfl, (h5.ag kM rfl rfl rfl).ag kM' rfl rfl rfl⟩
      by_cases hts : t = s
      · subst hts
        refine Or.inr (Or.inl ⟨k, n, hk, hn, ?_, ?_, ?_, ?_, ?_, fun j hj => ?_⟩)
        · rw [kM'.i 2 t 0 0 rfl, kN.i 2 t 0 0 rfl, si_j (by decide), am_si_self]
        · rw [kN'.i 600 0 0 t rfl, si_k (by decide), si_k (by decide), am_si_self]
        · rw [kN'.i 601 0 0 t rfl, si_k (by decide), am_si_self]
        · rw [kM'.i 2 t 0 1 rfl, kN.i 2 t 0 1 rfl, am_si_self]
        · rw [kN'.i 602 0 0 t rfl, am_si_self]
        · rw [kM'.l 303 t 0 j rfl, hN j hj, hN' t j, if_pos (by omega)]
      · refine (h2 t ht).cong (fun j => ?_) (fun j => ?_) ?_ ?_ ?_ ?_ ?_ (fun j => ?_)
        · rw [kM'.i 2 t 0 j rfl, kN.i 2 t 0 j rfl, si_o hts, si_o hts]
        · rw [kM'.l 303 t 0 j rfl, (kN 303 t 0 j (kpS_o (fun e => hts e.symm))).2]
          rfl
        · rw [kN'.i 600 0 0 t rfl, si_k (by decide), si_k (by decide), si_j hts, kM.i 600 0 0 t rfl]
        · rw [kN'.i 601 0 0 t rfl, si_k (by decide), si_j hts, si_k (by decide), kM.i 601 0 0 t rfl]
        · rw [kN'.i 602 0 0 t rfl, si_j hts, si_k (by decide), si_k (by decide), kM.i 602 0 0 t rfl]
        · rw [kM'.i 605 0 0 t rfl, kM.i 605 0 0 t rfl]
        · rw [kM'.i 606 0 0 t rfl, kM.i 606 0 0 t rfl]
        · rw [hN' t j, if_neg (by omega)]
          show N.2 703 0 t j = _
          rw [kM.l 703 0 t j rfl]
  · refine gt_r0 (g := fun N => f_X5_row N 0 x1 x2 x3) (v := (-2 : Int32)) (w := 2) (by omega) h ?_ (fun N => ?_)
    · unfold f_X4_row
      refine wp_is (wp_be (f_sh M _) (wp_bz (fun _ => wp_be (x4_ref2 M) (wp_some rfl)) (fun e1 => wp_be (f_w M _ (m := 4) (by decide)) (wp_bz (fun _ => wp_be (x4_ref2 M) (wp_some rfl)) (fun e2 => wp_be (f_w M _ (m := 40) (by decide)) (wp_bz (fun _ => wp_be (x4_ref2 M) (wp_some rfl)) (fun e3 => ?_)))))))
      rw [decide_eq_true_eq] at e1 e2 e3
      exact absurd ⟨e1, e2, e3⟩ hc
    · unfold f_X5_row
      refine wp_is (wp_be (f_i N _ (l := 0) (m := 7) (by decide) (by decide)) (wp_bz (fun _ => wp_be (x5_ref2 N) (wp_some rfl)) (fun e1 => wp_be (f_i N _ (l := 0) (m := 4) (by decide) (by decide)) (wp_bz (fun _ => wp_be (x5_ref2 N) (wp_some rfl)) (fun e2 => wp_be (f_i N _ (l := 0) (m := 40) (by decide) (by decide)) (wp_bz (fun _ => wp_be (x5_ref2 N) (wp_some rfl)) (fun e3 => ?_)))))))
      rw [decide_eq_true_eq] at e1 e2 e3
      exact absurd ⟨e1, e2, e3⟩ hc
/-! drawing -/
theorem k_drawing : ok_drawing GT := by
  intro tr b M x1 x2 x3 h
  have t1' : (1 : Int32).toInt = 1 := by decide
  by_cases hc : (0 ≤ x1.toInt ∧ x1.toInt ≤ 7) ∧ (1 ≤ x2.toInt ∧ x2.toInt ≤ 6) ∧ (0 ≤ x3.toInt ∧ x3.toInt ≤ 9)
  · obtain ⟨c1, c2, c3⟩ := hc
    obtain ⟨s, hs, rfl⟩ := i_nat (m := 7) c1
    obtain ⟨k, hk, rfl⟩ := i_nat (m := 6) (x := x2) ⟨by omega, by omega⟩
    obtain ⟨a, ha, rfl⟩ := i_nat (m := 9) c3
    have hk1 : 1 ≤ k := by have := c2.1; rw [i_ti (by omega)] at this; omega
    refine ⟨(1, am_si (am_si (am_si M 2 s 0 0 ((10 : Int32) + Int32.ofNat k)) 2 s 0 1 0) 2 s 0 2 (Int32.ofNat a)), (1, am_si (am_si (am_si (am_si (am_si (am_si M 2 s 0 0 ((10 : Int32) + Int32.ofNat k)) 2 s 0 1 0) 2 s 0 2 (Int32.ofNat a)) 600 0 0 s 2) 605 0 0 s (Int32.ofNat k)) 606 0 0 s (Int32.ofNat a)), wp_is ?_, wp_is ?_, rfl, ?_⟩
    · unfold f_X4_drawing
      refine wp_be (f_sh M _) (wp_neg (bz_dn c1) (wp_be (f_w M _ (m := 6) (by decide)) (wp_neg (bz_dn ⟨by omega, c2.2⟩) (wp_ti (fun e => by omega) (fun _ => wp_be (f_w M _ (m := 9) (by decide)) (wp_neg (bz_dn c3) (wp_inb (by omega) (by omega) ?_)))))))
      rw [i_cl (by omega)]
      unfold f_X2_becomeDrawing
      exact wp_call (wp_let (wp_let (wp_let (wp_some rfl)))) (fun y hy => wp_some (by rw [hy]))
    · unfold f_X5_drawing
      refine wp_be (f_i _ _ (l := 0) (m := 7) (by decide) (by decide)) (wp_neg (bz_dn c1) (wp_be (f_i _ _ (l := 1) (m := 6) (by decide) (by decide)) (wp_neg (bz_dn c2) (wp_be (f_i _ _ (l := 0) (m := 9) (by decide) (by decide)) (wp_neg (bz_dn c3) (wp_inb (by omega) (by omega) (wp_let (wp_inb (by omega) (by omega) (wp_let (wp_inb (by omega) (by omega) (wp_let (wp_some ?_))))))))))))
      rw [i_cl (by omega)]
    · obtain ⟨⟨D, w1, w2, w3⟩, h2, h3, h4, h5⟩ := h
      have kM : keeps [(2, none, none), (600, some 0, none), (605, some 0, none), (606, some 0, none)] M (am_si (am_si (am_si (am_si (am_si (am_si M 2 s 0 0 ((10 : Int32) + Int32.ofNat k)) 2 s 0 1 0) 2 s 0 2 (Int32.ofNat a)) 600 0 0 s 2) 605 0 0 s (Int32.ofNat k)) 606 0 0 s (Int32.ofNat a)) := ((((((keeps.rf _ M).si rfl).si rfl).si rfl).si rfl).si rfl).si rfl
      refine ⟨⟨D, w1, w2.ag kM rfl, w3.ag kM rfl⟩, fun t ht => ?_, h3.ag kM rfl, h4.ag kM rfl, h5.ag kM rfl rfl rfl⟩
      by_cases hts : t = s
      · subst hts
        refine Or.inr (Or.inr ⟨k, a, hk1, hk, ha, ?_, ?_, ?_, ?_, ?_⟩)
        · rw [si_k (by decide), si_k (by decide), si_k (by decide), si_j (by decide), si_j (by decide), am_si_self, show (10 : Int32) = Int32.ofNat 10 from rfl, i_add]
        · rw [si_k (by decide), si_k (by decide), am_si_self]
        · rw [si_k (by decide), am_si_self]
        · rw [am_si_self]
        · rw [si_k (by decide), si_k (by decide), si_k (by decide), am_si_self]
      · refine (h2 t ht).cong (fun j => ?_) (fun j => ?_) ?_ ?_ ?_ ?_ ?_ (fun j => ?_)
        · rw [si_k (by decide), si_k (by decide), si_k (by decide), si_o hts, si_o hts, si_o hts]
        · rw [kM.l 303 t 0 j rfl]
        · rw [si_k (by decide), si_k (by decide), si_j hts, si_k (by decide), si_k (by decide), si_k (by decide)]
        · rw [kM.i 601 0 0 t rfl]
        · rw [kM.i 602 0 0 t rfl]
        · rw [si_k (by decide), si_j hts, si_k (by decide), si_k (by decide), si_k (by decide), si_k (by decide)]
        · rw [si_j hts, si_k (by decide), si_k (by decide), si_k (by decide), si_k (by decide), si_k (by decide)]
        · rw [kM.l 703 0 t j rfl]
  · refine gt_r0 (g := fun N => f_X5_drawing N 0 x1 x2 x3) (v := (-2 : Int32)) (w := 2) (by omega) h ?_ (fun N => ?_)
    · unfold f_X4_drawing
      refine wp_is (wp_be (f_sh M _) (wp_bz (fun _ => wp_be (x4_ref2 M) (wp_some rfl)) (fun e1 => wp_be (f_w M _ (m := 6) (by decide)) (wp_bz (fun _ => wp_be (x4_ref2 M) (wp_some rfl)) (fun e2 => wp_ti (fun _ => wp_be (x4_ref2 M) (wp_some rfl)) (fun e4 => wp_be (f_w M _ (m := 9) (by decide)) (wp_bz (fun _ => wp_be (x4_ref2 M) (wp_some rfl)) (fun e3 => ?_))))))))
      rw [decide_eq_true_eq] at e1 e2 e3
      rw [t1'] at e4
      exact absurd ⟨e1, ⟨e4, e2.2⟩, e3⟩ hc
    · unfold f_X5_drawing
      refine wp_is (wp_be (f_i N _ (l := 0) (m := 7) (by decide) (by decide)) (wp_bz (fun _ => wp_be (x5_ref2 N) (wp_some rfl)) (fun e1 => wp_be (f_i N _ (l := 1) (m := 6) (by decide) (by decide)) (wp_bz (fun _ => wp_be (x5_ref2 N) (wp_some rfl)) (fun e2 => wp_be (f_i N _ (l := 0) (m := 9) (by decide) (by decide)) (wp_bz (fun _ => wp_be (x5_ref2 N) (wp_some rfl)) (fun e3 => ?_)))))))
      rw [decide_eq_true_eq] at e1 e2 e3
      exact absurd ⟨e1, e2, e3⟩ hc
