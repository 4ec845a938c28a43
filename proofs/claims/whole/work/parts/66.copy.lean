/-! copy -/
theorem rl_e (M : am_M) (k o i j : Nat) (f : Nat → Int64) : (am_rl M k o i f).2 k o i j = f j := by
  show (if _ then _ else _) = _
  rw [if_pos ⟨rfl, rfl, rfl⟩]
theorem rl_k {M : am_M} {k o i k' o' i' j' : Nat} {f : Nat → Int64} (h : k' ≠ k) : (am_rl M k o i f).2 k' o' i' j' = M.2 k' o' i' j' := by
  show (if _ then _ else _) = _
  rw [if_neg (fun z => h z.1)]
theorem rl_o {M : am_M} {k o i k' o' i' j' : Nat} {f : Nat → Int64} (h : o' ≠ o) : (am_rl M k o i f).2 k' o' i' j' = M.2 k' o' i' j' := by
  show (if _ then _ else _) = _
  rw [if_neg (fun z => h z.2.1)]
theorem c_hasEls {M : am_M} {s n : Nat} (h : M.1 2 s 0 1 = Int32.ofNat n) (hn : n ≤ 40) (x y : Int32) : f_X2_hasElements M s x y = some (bz (decide (0 ≤ x.toInt ∧ 0 ≤ y.toInt ∧ x.toInt + y.toInt ≤ n))) := by
  unfold f_X2_hasElements
  rw [h]
  refine wp_is (wp_be (f_w M x (i_ti (by omega))) (wp_bz (fun e => wp_some ?_) (fun e => ?_)))
  · rw [decide_eq_false_iff_not] at e
    by_cases hc : 0 ≤ x.toInt ∧ 0 ≤ y.toInt ∧ x.toInt + y.toInt ≤ n
    · exact absurd ⟨hc.1, by omega⟩ e
    · rw [bz_n hc]
  · rw [decide_eq_true_eq] at e
    have e1 : (Int32.ofNat n - x).toInt = (n : Int) - x.toInt := by rw [i_tsub (by rw [i_ti (by omega)]; omega) (by rw [i_ti (by omega)]; omega), i_ti (by omega)]
    refine wp_be (f_w M y e1) (wp_bz (fun e2 => wp_some ?_) (fun e2 => wp_some ?_))
    · rw [decide_eq_false_iff_not] at e2
      rw [bz_n (by omega)]
    · rw [decide_eq_true_eq] at e2
      rw [bz_d (by omega)]
theorem r_noRows1 {M : am_M} {p q c d : Nat} (hp : p < 8) (hq : q < 8) (h1 : M.1 600 0 0 p = Int32.ofNat c) (hc : c ≤ 2) (h2 : M.1 600 0 0 q = Int32.ofNat d) (hd : d ≤ 2) : f_X5_noRows M 0 (Int32.ofNat p) (Int32.ofNat q) 1 = some (if c = 2 ∨ d = 2 ∨ (c = 1 ∧ d = 1 ∧ ¬ M.1 601 0 0 p = M.1 601 0 0 q) then ((-3 : Int32), ref5 M 3) else if c = 0 ∨ d = 0 then ((-4 : Int32), ref5 M 4) else (0, M)) := by
  unfold f_X5_noRows
  rw [i_cl (x := p) (by omega), i_cl (x := q) (by omega), h1, h2]
  refine wp_is (wp_be (f_i M _ (l := 0) (m := 7) (by decide) (by decide)) (wp_neg (bz_dn (by rw [i_ti (by omega)]; omega)) (wp_be (f_i M _ (l := 0) (m := 7) (by decide) (by decide)) (wp_neg (bz_dn (by rw [i_ti (by omega)]; omega)) (wp_inb hp (by omega) ?_)))))
  refine wp_ieq (y := 2) (by omega) (by omega) (fun e => wp_be (x5_ref3 M) (wp_some (by rw [if_pos (Or.inl e)]))) (fun e1 => wp_inb hq (by omega) ?_)
  refine wp_ieq (y := 2) (by omega) (by omega) (fun e => wp_be (x5_ref3 M) (wp_some (by rw [if_pos (Or.inr (Or.inl e))]))) (fun e2 => wp_neg (by decide) (wp_inb hp (by omega) ?_))
  refine wp_ieq (y := 1) (by omega) (by omega) (fun e3 => wp_inb hq (by omega) ?_) (fun e3 => wp_inb hp (by omega) ?_)
  · refine wp_ieq (y := 1) (by omega) (by omega) (fun e4 => wp_inb hp (by omega) (wp_inb hq (by omega) ?_)) (fun e4 => wp_inb hp (by omega) ?_)
    · refine wp_ite (fun e5 => wp_inb hp (by omega) (wp_ieq (y := 0) (by omega) (by omega) (fun e6 => absurd e6 (by omega)) (fun _ => wp_inb hq (by omega) (wp_ieq (y := 0) (by omega) (by omega) (fun e6 => absurd e6 (by omega)) (fun _ => wp_some ?_))))) (fun e5 => wp_be (x5_ref3 M) (wp_some ?_))
      · rw [if_neg (fun z => by rcases z with z | z | z; exact e1 z; exact e2 z; exact z.2.2 e5), if_neg (by omega)]
      · rw [if_pos (Or.inr (Or.inr ⟨e3, e4, e5⟩))]
    · refine wp_ieq (y := 0) (by omega) (by omega) (fun e6 => absurd e6 (by omega)) (fun _ => wp_inb hq (by omega) (wp_ieq (y := 0) (by omega) (by omega) (fun e6 => wp_be (x5_ref4 M) (wp_some ?_)) (fun e6 => absurd e6 (by omega))))
      rw [if_neg (fun z => by rcases z with z | z | z; exact e1 z; exact e2 z; exact e4 z.2.1), if_pos (Or.inr e6)]
  · refine wp_ieq (y := 0) (by omega) (by omega) (fun e6 => wp_be (x5_ref4 M) (wp_some ?_)) (fun e6 => absurd e6 (by omega))
    rw [if_neg (fun z => by rcases z with z | z | z; exact e1 z; exact e2 z; exact e3 z.1), if_pos (Or.inl e6)]
theorem r_noRows0 {M : am_M} {p q c d : Nat} (hp : p < 8) (hq : q < 8) (h1 : M.1 600 0 0 p = Int32.ofNat c) (hc : c ≤ 2) (h2 : M.1 600 0 0 q = Int32.ofNat d) (hd : d ≤ 2) : f_X5_noRows M 0 (Int32.ofNat p) (Int32.ofNat q) 0 = some (if c = 2 ∨ d = 2 then ((-3 : Int32), ref5 M 3) else if c = 0 ∨ d = 0 then ((-4 : Int32), ref5 M 4) else (0, M)) := by
  unfold f_X5_noRows
  rw [i_cl (x := p) (by omega), i_cl (x := q) (by omega), h1, h2]
  refine wp_is (wp_be (f_i M _ (l := 0) (m := 7) (by decide) (by decide)) (wp_neg (bz_dn (by rw [i_ti (by omega)]; omega)) (wp_be (f_i M _ (l := 0) (m := 7) (by decide) (by decide)) (wp_neg (bz_dn (by rw [i_ti (by omega)]; omega)) (wp_inb hp (by omega) ?_)))))
  refine wp_ieq (y := 2) (by omega) (by omega) (fun e => wp_be (x5_ref3 M) (wp_some (by rw [if_pos (Or.inl e)]))) (fun e1 => wp_inb hq (by omega) ?_)
  refine wp_ieq (y := 2) (by omega) (by omega) (fun e => wp_be (x5_ref3 M) (wp_some (by rw [if_pos (Or.inr e)]))) (fun e2 => wp_pos rfl (wp_inb hp (by omega) ?_))
  refine wp_ieq (y := 0) (by omega) (by omega) (fun e6 => wp_be (x5_ref4 M) (wp_some ?_)) (fun e6 => wp_inb hq (by omega) (wp_ieq (y := 0) (by omega) (by omega) (fun e7 => wp_be (x5_ref4 M) (wp_some ?_)) (fun e7 => wp_some ?_)))
  · rw [if_neg (by omega), if_pos (Or.inl e6)]
  · rw [if_neg (by omega), if_pos (Or.inr e7)]
  · rw [if_neg (by omega), if_neg (by omega)]
theorem r_noRowsN {M : am_M} {p q f : Int32} (h : ¬ ((0 ≤ p.toInt ∧ p.toInt ≤ 7) ∧ (0 ≤ q.toInt ∧ q.toInt ≤ 7))) : f_X5_noRows M 0 p q f = some ((-2 : Int32), ref5 M 2) := by
  unfold f_X5_noRows
  refine wp_is (wp_be (f_i M _ (l := 0) (m := 7) (by decide) (by decide)) (wp_bz (fun _ => wp_be (x5_ref2 M) (wp_some rfl)) (fun e1 => wp_be (f_i M _ (l := 0) (m := 7) (by decide) (by decide)) (wp_bz (fun _ => wp_be (x5_ref2 M) (wp_some rfl)) (fun e2 => ?_)))))
  rw [decide_eq_true_eq] at e1 e2
  exact absurd ⟨e1, e2⟩ h
theorem r_copy90 {p i n : Nat} {a2 a4 : Int32} (hp : p < 8) (hi : i + n ≤ 40) : ∀ (m x : Nat) (M : am_M), x ≤ n → n + 1 ≤ m + x → wp (l_X5_copy_90 0 (Int32.ofNat p) a2 (Int32.ofNat i) a4 (Int32.ofNat n) m (Int32.ofNat x) M) (fun N => ∀ y, N.2 604 0 0 y = if x ≤ y ∧ y < n then M.2 703 0 p (i + y) else M.2 604 0 0 y) := by
  intro m
  induction m with
  | zero => intro x M h1 h2; omega
  | succ m ih =>
    intro x M hx hm
    rw [l_X5_copy_90, i_add i x, i_cl (x := p) (by omega), i_cl (x := x) (by omega), i_cl (x := i + x) (by omega)]
    refine wp_le (by omega) (by omega) (fun h => wp_some (fun y => by rw [if_neg (by omega)])) (fun h => ?_)
    refine wp_inb hp (by omega) (wp_inb (by omega) (by omega) (wp_inb (by omega) (by omega) (wp_let (wp_let ?_))))
    rw [i_s]
    refine wp_mono (ih (x + 1) _ (by omega) (by omega)) (fun N hN y => ?_)
    rw [hN y, sl_e, sl_k (by decide)]
    by_cases hc : y = x
    · rw [if_neg (show ¬ (x + 1 ≤ y ∧ y < n) from by omega), if_pos hc, if_pos (show x ≤ y ∧ y < n from by omega), hc]
    · by_cases hd : x ≤ y ∧ y < n
      · rw [if_pos hd, if_pos (show x + 1 ≤ y ∧ y < n from by omega)]
      · rw [if_neg hd, if_neg (show ¬ (x + 1 ≤ y ∧ y < n) from by omega), if_neg hc]
theorem r_copy124 {q j n : Nat} (hq : q < 8) (hj : j + n ≤ 40) : ∀ (m x : Nat) (M : am_M), x ≤ n → n + 1 ≤ m + x → wp (l_X5_copy_124 0 (Int32.ofNat q) (Int32.ofNat j) (Int32.ofNat n) m (Int32.ofNat x) M) (fun N => ∀ s t, N.2 703 0 s t = if s = q ∧ j + x ≤ t ∧ t < j + n then M.2 604 0 0 (t - j) else M.2 703 0 s t) := by
  intro m
  induction m with
  | zero => intro x M h1 h2; omega
  | succ m ih =>
    intro x M hx hm
    rw [l_X5_copy_124, i_add j x, i_cl (x := q) (by omega), i_cl (x := x) (by omega), i_cl (x := j + x) (by omega)]
    refine wp_le (by omega) (by omega) (fun h => wp_some (fun s t => by rw [if_neg (by omega)])) (fun h => ?_)
    refine wp_inb hq (by omega) (wp_inb (by omega) (by omega) (wp_inb (by omega) (by omega) (wp_let (wp_let ?_))))
    rw [i_s]
    refine wp_mono (ih (x + 1) _ (by omega) (by omega)) (fun N hN s t => ?_)
    rw [hN s t, sl2, sl_k (by decide)]
    by_cases hc : s = q ∧ t = j + x
    · rw [if_neg (show ¬ (s = q ∧ j + (x + 1) ≤ t ∧ t < j + n) from by omega), if_pos hc, if_pos (show s = q ∧ j + x ≤ t ∧ t < j + n from by omega), show t - j = x from by omega]
    · by_cases hd : s = q ∧ j + x ≤ t ∧ t < j + n
      · rw [if_pos hd, if_pos (show s = q ∧ j + (x + 1) ≤ t ∧ t < j + n from by omega)]
      · rw [if_neg hd, if_neg (show ¬ (s = q ∧ j + (x + 1) ≤ t ∧ t < j + n) from by omega), if_neg hc]
theorem ref4_601 (M : am_M) (w s : Nat) : (ref4 M w).1 601 0 0 s = M.1 601 0 0 s := si_k (by decide)
theorem ref4_602 (M : am_M) (w s : Nat) : (ref4 M w).1 602 0 0 s = M.1 602 0 0 s := si_k (by decide)
theorem k_copy : ok_copy GT := by
  intro tr b M x1 x2 x3 x4 x5 h
  by_cases hc : (0 ≤ x1.toInt ∧ x1.toInt ≤ 7) ∧ (0 ≤ x2.toInt ∧ x2.toInt ≤ 7)
  · obtain ⟨p, hp, rfl⟩ := i_nat (m := 7) hc.1
    obtain ⟨q, hq, rfl⟩ := i_nat (m := 7) hc.2
    have hp8 : p < 8 := by omega
    have hq8 : q < 8 := by omega
    obtain ⟨c, hF, hr, hd⟩ := sF_c (h.2.1 p hp8)
    obtain ⟨d, hF2, hr2, hd2⟩ := sF_c (h.2.1 q hq8)
    have ea := c_agR (M := M) hp8 hq8 hF hF2
    have z1 := hF.2.1
    have z2 := hF2.2.1
    by_cases h2 : c = 2 ∨ d = 2
    · rw [if_pos h2] at ea
      refine gt_r1 (g := fun N => f_X5_copy N 0 (Int32.ofNat p) (Int32.ofNat q) x3 x4 x5) (v := (-3 : Int32)) (w := 3) (by omega) h (wp_is ?_) (wp_is ?_)
      · unfold f_X4_copy
        exact wp_be ea (wp_call (wp_neg (by decide) (wp_some rfl)) (fun z hz => by subst hz; exact wp_neg (by decide) (wp_be (x4_ref3 M) (wp_some rfl))))
      · have en := r_noRows1 (M := ref4 M 3) hp8 hq8 ((ref4_600 M 3 p).trans hF.1) z1 ((ref4_600 M 3 q).trans hF2.1) z2
        rw [if_pos (by rcases h2 with e | e; exact Or.inl e; exact Or.inr (Or.inl e))] at en
        unfold f_X5_copy
        exact wp_be en (wp_let (wp_neg (show ¬ (-3 : Int32) = 0 from by decide) (wp_some rfl)))
    · rw [if_neg h2] at ea
      by_cases h0 : c = 0 ∨ d = 0
      · rw [if_pos h0] at ea
        refine gt_r1 (g := fun N => f_X5_copy N 0 (Int32.ofNat p) (Int32.ofNat q) x3 x4 x5) (v := (-4 : Int32)) (w := 4) (by omega) h (wp_is ?_) (wp_is ?_)
        · unfold f_X4_copy
          exact wp_be ea (wp_call (wp_neg (by decide) (wp_some rfl)) (fun z hz => by subst hz; exact wp_neg (by decide) (wp_be (x4_ref4 M) (wp_some rfl))))
        · have en := r_noRows1 (M := ref4 M 4) hp8 hq8 ((ref4_600 M 4 p).trans hF.1) z1 ((ref4_600 M 4 q).trans hF2.1) z2
          rw [if_neg (fun z => by rcases z with z | z | z <;> omega), if_pos h0] at en
          unfold f_X5_copy
          exact wp_be en (wp_let (wp_neg (show ¬ (-4 : Int32) = 0 from by decide) (wp_some rfl)))
      · rw [if_neg h0] at ea
        have e1 : c = 1 := by omega
        have e2 : d = 1 := by omega
        obtain ⟨k, n, k4, n4, q1, q2, q3, q4, q5, q6⟩ := hr e1
        obtain ⟨k', n', k4', n4', q1', q2', q3', q4', q5', q6'⟩ := hr2 e2
        by_cases hkk : k = k'
        · subst hkk
          have eth : M.1 2 p 0 0 = M.1 2 q 0 0 := q1.trans q1'.symm
          have ez : wp (if (0 : Int32) = 0 then if am_inb (Int32.ofNat p) 8 = true then if am_inb (Int32.ofNat q) 8 = true then (if (M.1 2 p 0 0) = (M.1 2 q 0 0) then some (0 : Int32) else some (-3 : Int32)) else none else none else some (0 : Int32)) (fun z => z = 0) := wp_pos rfl (wp_inb hp8 (by omega) (wp_inb hq8 (by omega) (wp_pos eth (wp_some rfl))))
          by_cases hok : 0 ≤ x3.toInt ∧ 0 ≤ x4.toInt ∧ 0 ≤ x5.toInt ∧ x3.toInt + x5.toInt ≤ n ∧ x4.toInt + x5.toInt ≤ n'
          · obtain ⟨i, hi, rfl⟩ := i_nat (x := x3) (m := 40) ⟨hok.1, by omega⟩
            obtain ⟨j, hj, rfl⟩ := i_nat (x := x4) (m := 40) ⟨hok.2.1, by omega⟩
            obtain ⟨y, hy, rfl⟩ := i_nat (x := x5) (m := 40) ⟨hok.2.2.1, by omega⟩
            have hok' := hok
            rw [i_ti (by omega), i_ti (by omega), i_ti (by omega)] at hok'
            have hiy : i + y ≤ n := by omega
            have hjy : j + y ≤ n' := by omega
            obtain ⟨N1, f1, g1, kk1⟩ := wp_km (r_copy90 (a2 := Int32.ofNat q) (a4 := Int32.ofNat j) (n := y) hp8 (show i + y ≤ 40 from by omega) 1000 0 (am_rl M 303 q 0 (va_cpy (fun j => M.2 303 p 0 j) (fun j => M.2 303 q 0 j) i j y)) (by omega) (by omega)) (fr_l_X5_copy_90 _ _ _)
            obtain ⟨N2, f2, g2, kk2⟩ := wp_km (r_copy124 (n := y) hq8 (show j + y ≤ 40 from by omega) 1000 0 N1 (by omega) (by omega)) (fr_l_X5_copy_124 _ _ _)
            refine ⟨(Int32.ofNat y, am_rl M 303 q 0 (va_cpy (fun j => M.2 303 p 0 j) (fun j => M.2 303 q 0 j) i j y)), (Int32.ofNat y, N2), wp_is ?_, wp_is ?_, rfl, ?_⟩
            · unfold f_X4_copy
              rw [i_cl (x := p) (by omega), i_cl (x := q) (by omega), i_cl (x := i) (by omega), i_cl (x := j) (by omega), i_cl (x := y) (by omega)]
              refine wp_be ea (wp_call ez (fun z hz => ?_))
              subst hz
              exact wp_pos rfl (wp_inb hp8 (by omega) (wp_be (c_hasEls q4 n4 _ _) (wp_neg (bz_dn ⟨hok.1, hok.2.2.1, hok.2.2.2.1⟩) (wp_inb hq8 (by omega) (wp_be (c_hasEls q4' n4' _ _) (wp_neg (bz_dn ⟨hok.2.1, hok.2.2.1, hok.2.2.2.2⟩) (wp_inb hp8 (by omega) (wp_inb hq8 (by omega) (wp_pos ⟨i_0l _ (by omega), i_0l _ (by omega), i_0l _ (by omega), by omega, by omega⟩ (wp_let (wp_some rfl)))))))))))
            · have en := r_noRows1 (M := am_rl M 303 q 0 (va_cpy (fun j => M.2 303 p 0 j) (fun j => M.2 303 q 0 j) i j y)) (c := 1) (d := 1) hp8 hq8 q2 (by omega) q2' (by omega)
              rw [if_neg (fun z => by rcases z with z | z | z; exact absurd z (by decide); exact absurd z (by decide); exact z.2.2 (q3.trans q3'.symm)), if_neg (by omega)] at en
              unfold f_X5_copy
              rw [i_cl (x := p) (by omega), i_cl (x := q) (by omega)]
              refine wp_be en (wp_let (wp_pos rfl (wp_neg (i_0l _ (by omega)) (wp_neg (i_0l _ (by omega)) (wp_neg (i_0l _ (by omega)) (wp_inb hp8 (by omega) ?_))))))
              dsimp only
              rw [show (am_rl M 303 q 0 (va_cpy (fun j => M.2 303 p 0 j) (fun j => M.2 303 q 0 j) i j y)).1 602 0 0 p = Int32.ofNat n from q5, show (am_rl M 303 q 0 (va_cpy (fun j => M.2 303 p 0 j) (fun j => M.2 303 q 0 j) i j y)).1 602 0 0 q = Int32.ofNat n' from q5', i_sub (show y ≤ n from by omega), i_sub (show y ≤ n' from by omega)]
              refine wp_lt (by omega) (by omega) (fun e => absurd e (by omega)) (fun _ => wp_inb hq8 (by omega) (wp_lt (by omega) (by omega) (fun e => absurd e (by omega)) (fun _ => wp_inb hp8 (by omega) (wp_lt (by omega) (by omega) (fun e => absurd e (by omega)) (fun _ => wp_inb hq8 (by omega) (wp_le (by omega) (by omega) (fun _ => ?_) (fun e => absurd e (by omega))))))))
              exact wp_be f1 (wp_be f2 (wp_some rfl))
            · obtain ⟨⟨D, w1, w2, w3⟩, h2', h3, h4, h5⟩ := h
              have kM : keeps [(303, none, none), (604, some 0, none), (703, some 0, none)] M N2 := keeps.trans (keeps.trans ((keeps.rf _ M).rl (fun _ => rfl)) (kk1.mono rfl)) (kk2.mono rfl)
              refine ⟨⟨D, w1, w2.ag kM rfl, w3.ag kM rfl⟩, fun t ht => ?_, h3.ag kM rfl, h4.ag kM rfl, h5.ag kM rfl rfl rfl⟩
              have v303 : ∀ u v, N2.2 303 u 0 v = (am_rl M 303 q 0 (va_cpy (fun j => M.2 303 p 0 j) (fun j => M.2 303 q 0 j) i j y)).2 303 u 0 v := fun u v => (kk2.l _ _ _ _ rfl).trans (kk1.l _ _ _ _ rfl)
              have v703 : ∀ u v, N1.2 703 0 u v = M.2 703 0 u v := fun u v => (kk1.l _ _ _ _ rfl).trans (rl_k (by decide))
              by_cases hts : t = q
              · subst hts
                refine Or.inr (Or.inl ⟨k, n', k4', n4', (kM.i _ _ _ _ rfl).trans q1', (kM.i _ _ _ _ rfl).trans q2', (kM.i _ _ _ _ rfl).trans q3', (kM.i _ _ _ _ rfl).trans q4', (kM.i _ _ _ _ rfl).trans q5', fun v hv => ?_⟩)
                rw [v303, rl_e, g2 t v]
                unfold va_cpy
                by_cases hr : j ≤ v ∧ v < j + y
                · rw [if_pos hr, if_pos (by omega), g1 (v - j), if_pos (by omega), rl_k (by decide)]
                  exact q6 (i + (v - j)) (by omega)
                · rw [if_neg hr, if_neg (by omega), v703]
                  exact q6' v hv
              · refine (h2' t ht).cong (fun v => kM.i _ _ _ _ rfl) (fun v => ?_) (kM.i _ _ _ _ rfl) (kM.i _ _ _ _ rfl) (kM.i _ _ _ _ rfl) (kM.i _ _ _ _ rfl) (kM.i _ _ _ _ rfl) (fun v => ?_)
                · rw [v303, rl_o hts]
                · rw [g2 t v, if_neg (fun z => hts z.1), v703]
          · refine gt_r1 (g := fun N => f_X5_copy N 0 (Int32.ofNat p) (Int32.ofNat q) x3 x4 x5) (v := (-2 : Int32)) (w := 2) (by omega) h (wp_is ?_) (wp_is ?_)
            · unfold f_X4_copy
              rw [i_cl (x := p) (by omega), i_cl (x := q) (by omega)]
              refine wp_be ea (wp_call ez (fun z hz => ?_))
              subst hz
              refine wp_pos rfl (wp_inb hp8 (by omega) (wp_be (c_hasEls q4 n4 _ _) (wp_bz (fun _ => wp_be (x4_ref2 M) (wp_some rfl)) (fun e1 => wp_inb hq8 (by omega) (wp_be (c_hasEls q4' n4' _ _) (wp_bz (fun _ => wp_be (x4_ref2 M) (wp_some rfl)) (fun e2 => ?_)))))))
              rw [decide_eq_true_eq] at e1 e2
              exact absurd ⟨e1.1, e2.1, e1.2.1, e1.2.2, e2.2.2⟩ hok
            · have en := r_noRows1 (M := ref4 M 2) (c := 1) (d := 1) hp8 hq8 ((ref4_600 M 2 p).trans q2) (by omega) ((ref4_600 M 2 q).trans q2') (by omega)
              rw [if_neg (fun z => by rcases z with z | z | z; exact absurd z (by decide); exact absurd z (by decide); exact z.2.2 (by rw [ref4_601, ref4_601, q3, q3'])), if_neg (by omega)] at en
              unfold f_X5_copy
              rw [i_cl (x := p) (by omega), i_cl (x := q) (by omega)]
              refine wp_be en (wp_let (wp_pos rfl ?_))
              dsimp only
              rw [ref4_602, ref4_602, q5, q5']
              refine wp_ti (fun _ => wp_be (x5_ref2 _) (wp_some rfl)) (fun a5 => wp_ti (fun _ => wp_be (x5_ref2 _) (wp_some rfl)) (fun a3 => wp_ti (fun _ => wp_be (x5_ref2 _) (wp_some rfl)) (fun a4 => wp_inb hp8 (by omega) (wp_ti (fun _ => wp_be (x5_ref2 _) (wp_some rfl)) (fun a6 => wp_inb hq8 (by omega) (wp_ti (fun _ => wp_be (x5_ref2 _) (wp_some rfl)) (fun a7 => wp_inb hp8 (by omega) (wp_ti (fun _ => wp_be (x5_ref2 _) (wp_some rfl)) (fun a8 => wp_inb hq8 (by omega) (wp_tl (fun a9 => ?_) (fun _ => wp_be (x5_ref2 _) (wp_some rfl))))))))))))
              rw [t0] at a5 a3 a4
              rw [i_ti (by omega)] at a6 a7
              rw [i_tsub (by rw [i_ti (by omega)]; omega) (by rw [i_ti (by omega)]; omega), i_ti (by omega)] at a8 a9
              exact absurd ⟨a3, a4, a5, by omega, by omega⟩ hok
        · refine gt_r1 (g := fun N => f_X5_copy N 0 (Int32.ofNat p) (Int32.ofNat q) x3 x4 x5) (v := (-3 : Int32)) (w := 3) (by omega) h (wp_is ?_) (wp_is ?_)
          · unfold f_X4_copy
            rw [i_cl (x := p) (by omega), i_cl (x := q) (by omega)]
            refine wp_be ea (wp_call (Q := fun z => z = (-3 : Int32)) (wp_pos rfl (wp_inb hp8 (by omega) (wp_inb hq8 (by omega) (wp_neg (fun e => hkk ?_) (wp_some rfl))))) (fun z hz => by subst hz; exact wp_neg (by decide) (wp_be (x4_ref3 M) (wp_some rfl))))
            rw [q1, q1', i_eq (by omega) (by omega)] at e
            exact e
          · have en := r_noRows1 (M := ref4 M 3) (c := 1) (d := 1) hp8 hq8 ((ref4_600 M 3 p).trans q2) (by omega) ((ref4_600 M 3 q).trans q2') (by omega)
            rw [if_pos (Or.inr (Or.inr ⟨rfl, rfl, fun e => hkk (by rw [ref4_601, ref4_601, q3, q3', i_eq (by omega) (by omega)] at e; exact e)⟩))] at en
            unfold f_X5_copy
            exact wp_be en (wp_let (wp_neg (show ¬ (-3 : Int32) = 0 from by decide) (wp_some rfl)))
  · refine gt_r0 (g := fun N => f_X5_copy N 0 x1 x2 x3 x4 x5) (v := (-2 : Int32)) (w := 2) (by omega) h (wp_is ?_) (fun N => wp_is ?_)
    · unfold f_X4_copy
      exact wp_be (c_agN hc) (wp_call (wp_neg (by decide) (wp_some rfl)) (fun z hz => by subst hz; exact wp_neg (by decide) (wp_be (x4_ref2 M) (wp_some rfl))))
    · unfold f_X5_copy
      exact wp_be (r_noRowsN hc) (wp_let (wp_neg (show ¬ (-2 : Int32) = 0 from by decide) (wp_some rfl)))
