/-! the class's walk: how many rows, how many marks -/
theorem c_fillI {k p q n : Nat} {x : Int32} (hn : n ≤ 900) : ∀ (m j : Nat) (M : am_M), j ≤ n → n + 1 ≤ m + j → wp (l_J7_fill_53178_5 k p q n x (Int32.ofNat n) m (Int32.ofNat j) M) (fun N => ∀ i, N.1 k p q i = if j ≤ i ∧ i < n then x else M.1 k p q i) := by
  intro m
  induction m with
  | zero => intro j M h1 h2; omega
  | succ m ih =>
    intro j M hj hm
    rw [l_J7_fill_53178_5]
    refine wp_le (by omega) (by omega) (fun h => wp_some (fun i => by rw [if_neg (by omega)])) (fun hlt => ?_)
    refine wp_inb (by omega) (by omega) ?_
    rw [i_cl (by omega)]
    refine wp_let (wp_let ?_)
    rw [i_s]
    refine wp_mono (ih (j + 1) _ (by omega) (by omega)) (fun N hN i => ?_)
    rw [hN i, si_e]
    by_cases hs : i = j
    · subst hs
      rw [if_neg (by omega), if_pos rfl, if_pos (by omega)]
    · rw [if_neg hs]
      by_cases hc : j ≤ i ∧ i < n
      · rw [if_pos hc, if_pos (by omega)]
      · rw [if_neg hc, if_neg (by omega)]
theorem c_fillL {k p q n : Nat} {x : Int64} (hn : n ≤ 900) : ∀ (m j : Nat) (M : am_M), j ≤ n → n + 1 ≤ m + j → wp (l_J7_fill_d0a16_6 k p q n x (Int32.ofNat n) m (Int32.ofNat j) M) (fun N => ∀ i, N.2 k p q i = if j ≤ i ∧ i < n then x else M.2 k p q i) := by
  intro m
  induction m with
  | zero => intro j M h1 h2; omega
  | succ m ih =>
    intro j M hj hm
    rw [l_J7_fill_d0a16_6]
    refine wp_le (by omega) (by omega) (fun h => wp_some (fun i => by rw [if_neg (by omega)])) (fun hlt => ?_)
    refine wp_inb (by omega) (by omega) ?_
    rw [i_cl (by omega)]
    refine wp_let (wp_let ?_)
    rw [i_s]
    refine wp_mono (ih (j + 1) _ (by omega) (by omega)) (fun N hN i => ?_)
    rw [hN i, sl_e]
    by_cases hs : i = j
    · subst hs
      rw [if_neg (by omega), if_pos rfl, if_pos (by omega)]
    · rw [if_neg hs]
      by_cases hc : j ≤ i ∧ i < n
      · rw [if_pos hc, if_pos (by omega)]
      · rw [if_neg hc, if_neg (by omega)]
theorem c_fill {M : am_M} {k p q n : Nat} {x : Int32} (hn : n ≤ 900) : wp (f_J7_fill_53178 M k p q n x) (fun N => ∀ i, i < n → N.1 k p q i = x) := by
  unfold f_J7_fill_53178
  refine wp_let (wp_call (c_fillI hn 1000 0 M (by omega) (by omega)) (fun N hN => wp_some (fun i hi => ?_)))
  rw [hN i, if_pos (by omega)]
theorem c_fill2 {M : am_M} {k p q n : Nat} {x : Int64} (hn : n ≤ 900) : wp (f_J7_fill_d0a16 M k p q n x) (fun N => ∀ i, i < n → N.2 k p q i = x) := by
  unfold f_J7_fill_d0a16
  refine wp_let (wp_call (c_fillL hn 1000 0 M (by omega) (by omega)) (fun N hN => wp_some (fun i hi => ?_)))
  rw [hN i, if_pos (by omega)]
/-- counts and sums as they stand -/
def CN (M : am_M) (c u : Nat → Nat) : Prop := ∀ b, b ≤ 24 → M.1 105 0 0 b = Int32.ofNat (c b) ∧ M.2 106 0 0 b = Int64.ofNat (u b)
theorem l_add (x y : Nat) : Int64.ofNat x + Int64.ofNat y = Int64.ofNat (x + y) := (Int64.ofNat_add x y).symm
theorem l_of {x : Nat} (h : x < 2147483648) : (Int32.ofNat x).toInt64 = Int64.ofNat x := Int32.toInt64_ofNat' (by
  have : Int32.maxValue.toInt = 2147483647 := by decide
  omega)
theorem c_walkInto {M : am_M} {t a : Nat} {c u : Nat → Nat} (ht : t ≤ 24) (ha : a ≤ 24) (hc : CN M c u) (hB : ∀ b, c b ≤ 1000000000) : wp (f_X0_walkInto M (Int32.ofNat t) (Int32.ofNat a)) (fun N => CN N (fun b => if b = a then (if bt (M.1 103 0 0 t) a = true then c a + pv c a else 0) else c b) (fun b => if b = a then (if bt (M.1 103 0 0 t) a = true then u a + pv u a + (if bt (M.1 104 0 0 t) a = true then c a + pv c a else 0) else 0) else u b)) := by
  unfold f_X0_walkInto
  refine wp_inb (by omega) (by omega) ?_
  rw [i_cl (x := t) (by omega), i_cl (x := a) (by omega)]
  refine wp_btz (by omega) (fun h => ?_) (fun h => ?_)
  · refine wp_inb (by omega) (by omega) (wp_let (wp_inb (by omega) (by omega) (wp_let (wp_some (fun b hb => ⟨?_, ?_⟩)))))
    · dsimp only
      rw [sl_i, si_e]
      by_cases hba : b = a
      · rw [if_pos hba, if_pos hba, h, if_neg (by decide)]
        rfl
      · rw [if_neg hba, if_neg hba]
        exact (hc b hb).1
    · dsimp only
      rw [sl_e, si_l]
      by_cases hba : b = a
      · rw [if_pos hba, if_pos hba, h, if_neg (by decide)]
        rfl
      · rw [if_neg hba, if_neg hba]
        exact (hc b hb).2
  · have key : wp ((if Int32.ofNat a ≤ 0 then some M else if am_inb (Int32.ofNat a) 25 = true then if am_inb (Int32.ofNat a - (1 : Int32)) 25 = true then if am_inb (Int32.ofNat a) 25 = true then am_let (am_si M 105 0 0 a ((M.1 105 0 0 a) + (M.1 105 0 0 (Int32.ofNat a - (1 : Int32)).toNatClampNeg))) (fun M8 => if am_inb (Int32.ofNat a) 25 = true then if am_inb (Int32.ofNat a - (1 : Int32)) 25 = true then if am_inb (Int32.ofNat a) 25 = true then am_let (am_sl M8 106 0 0 a ((M8.2 106 0 0 a) + (M8.2 106 0 0 (Int32.ofNat a - (1 : Int32)).toNatClampNeg))) (fun M12 => some M12) else none else none else none) else none else none else none) : Option (am_M)) (fun N => keeps [(105, some 0, none), (106, some 0, none)] M N ∧ CN N (fun b => if b = a then c a + pv c a else c b) (fun b => if b = a then u a + pv u a else u b)) := by
      refine wp_le (y := 0) (by omega) (by omega) (fun h' => ?_) (fun h' => ?_)
      · have e : a = 0 := by omega
        subst e
        refine wp_some ⟨keeps.rf _ _, fun b hb => ?_⟩
        obtain ⟨p1, p2⟩ := hc b hb
        dsimp only
        by_cases hba : b = 0
        · subst hba
          rw [if_pos rfl, if_pos rfl, pv_0, pv_0, Nat.add_zero, Nat.add_zero]
          exact ⟨p1, p2⟩
        · rw [if_neg hba, if_neg hba]
          exact ⟨p1, p2⟩
      · obtain ⟨a', rfl⟩ : ∃ a', a = a' + 1 := ⟨a - 1, by omega⟩
        rw [i_m, i_cl (x := a') (by omega)]
        refine wp_inb (by omega) (by omega) (wp_inb (by omega) (by omega) (wp_inb (by omega) (by omega) (wp_let (wp_inb (by omega) (by omega) (wp_inb (by omega) (by omega) (wp_inb (by omega) (by omega) (wp_let (wp_some ⟨?_, fun b hb => ⟨?_, ?_⟩⟩))))))))
        · exact ((keeps.rf _ _).si rfl).sl rfl
        · dsimp only
          rw [sl_i, si_e]
          by_cases hba : b = a' + 1
          · rw [if_pos hba, if_pos hba, (hc _ ha).1, (hc a' (by omega)).1, i_add, pv_s]
          · rw [if_neg hba, if_neg hba]
            exact (hc b hb).1
        · dsimp only
          rw [sl_e, si_l]
          by_cases hba : b = a' + 1
          · rw [if_pos hba, if_pos hba, (hc _ ha).2, (hc a' (by omega)).2, l_add, pv_s]
          · rw [if_neg hba, if_neg hba]
            exact (hc b hb).2
    refine wp_call key (fun N hN => ?_)
    obtain ⟨hk, hN⟩ := hN
    have hN : ∀ b, b ≤ 24 → N.1 105 0 0 b = Int32.ofNat (if b = a then c a + pv c a else c b) ∧ N.2 106 0 0 b = Int64.ofNat (if b = a then u a + pv u a else u b) := hN
    refine wp_inb (by omega) (by omega) ?_
    rw [hk.i 104 0 0 t rfl]
    refine wp_bt1 (by omega) (fun h4 => ?_) (fun h4 => ?_)
    · refine wp_inb (by omega) (by omega) (wp_inb (by omega) (by omega) (wp_inb (by omega) (by omega) (wp_let (wp_some (fun b hb => ⟨?_, ?_⟩)))))
      · dsimp only
        rw [sl_i, (hN b hb).1, if_pos h]
      · dsimp only
        rw [sl_e]
        by_cases hba : b = a
        · rw [if_pos hba, if_pos hba, (hN a ha).2, (hN a ha).1, if_pos rfl, if_pos rfl, if_pos h, if_pos h4, l_of, l_add]
          have q1 := hB a
          have q2 : pv c a ≤ 1000000000 := by
            unfold pv
            split
            · omega
            · exact hB _
          omega
        · rw [if_neg hba, if_neg hba, (hN b hb).2, if_neg hba]
    · refine wp_some (fun b hb => ?_)
      obtain ⟨p1, p2⟩ := hN b hb
      dsimp only
      rw [p1, p2, if_pos h, if_pos h, if_neg (show ¬ bt (M.1 104 0 0 t) a = true from by rw [h4]; decide), Nat.add_zero]
      exact ⟨rfl, rfl⟩
def pm : Nat → Int32
  | 0 => -1
  | k + 1 => Int32.ofNat k
theorem pm_p (k : Nat) : pm (k + 1) + -1 = pm k := by
  cases k with
  | zero => exact i_p0
  | succ k => exact i_p k
theorem pm_0 : pm 0 < 0 := by decide
theorem pm_s {k : Nat} (h : k < 2147483648) : ¬ pm (k + 1) < 0 := i_0l k h
/-- one moment's walk, from the top down -/
theorem c_walk_80 {s : Nat} {P mk : Nat → Nat → Bool} {v : Int32} (hs : s + 1 ≤ 24) (hv : ∀ a, a ≤ 24 → bt v a = (P s a || P (s + 1) a)) : ∀ (m k : Nat) (M : am_M), k ≤ s + 2 → k + 1 ≤ m → (∀ a, a ≤ 24 → bt (M.1 103 0 0 (s + 1)) a = P (s + 1) a) → (∀ a, a ≤ 24 → bt (M.1 104 0 0 (s + 1)) a = mk (s + 1) a) → CN M (fun b => if k ≤ b then cf P (s + 1) b else cf P s b) (fun b => if k ≤ b then sf P mk (s + 1) b else sf P mk s b) → wp (l_X0_walk_80 (Int32.ofNat (s + 1)) v m (pm k) M) (fun N => CN N (cf P (s + 1)) (sf P mk (s + 1))) := by
  intro m
  induction m with
  | zero => intro k M h1 h2; omega
  | succ m ih =>
    intro k M hk hm h3 h4 hC
    rw [l_X0_walk_80]
    cases k with
    | zero =>
      refine wp_pos pm_0 (wp_some (fun b hb => ?_))
      have := hC b hb
      dsimp only at this
      rwa [if_pos (Nat.zero_le _), if_pos (Nat.zero_le _)] at this
    | succ a =>
      refine wp_neg (pm_s (by omega)) ?_
      have step : wp ((if ((v >>> (pm (a + 1) &&& 31)) &&& (1 : Int32)) = (1 : Int32) then (f_X0_walkInto M (Int32.ofNat (s + 1)) (pm (a + 1))).bind (fun r14 => some r14) else some M) : Option (am_M)) (fun N => keeps [(105, some 0, none), (106, some 0, none)] M N ∧ CN N (fun b => if a ≤ b then cf P (s + 1) b else cf P s b) (fun b => if a ≤ b then sf P mk (s + 1) b else sf P mk s b)) := by
        have ha : a ≤ 24 ∨ 24 < a := by omega
        have ha : a ≤ 24 := by omega
        show wp (if ((v >>> (Int32.ofNat a &&& 31)) &&& (1 : Int32)) = (1 : Int32) then (f_X0_walkInto M (Int32.ofNat (s + 1)) (Int32.ofNat a)).bind (fun r14 => some r14) else some M) _
        refine wp_bt1 (by omega) (fun ht => ?_) (fun ht => ?_)
        · refine wp_call (wp_km (c_walkInto hs ha hC (fun b => ?_)) fr_f_X0_walkInto) (fun N hN => wp_some ⟨hN.2, fun b hb => ?_⟩)
          · split
            · exact Nat.le_trans (cf_le P (s + 1) b) (Nat.le_trans (Nat.pow_le_pow_right (by omega) hs) (by decide))
            · exact Nat.le_trans (cf_le P s b) (Nat.le_trans (Nat.pow_le_pow_right (by omega) (Nat.le_of_succ_le hs)) (by decide))
          · obtain ⟨p1, p2⟩ := hN.1 b hb
            dsimp only at p1 p2 ⊢
            have e1 : (if a + 1 ≤ a then cf P (s + 1) a else cf P s a) = cf P s a := if_neg (by omega)
            have e2 : pv (fun b => if a + 1 ≤ b then cf P (s + 1) b else cf P s b) a = pv (cf P s) a := pv_congr (fun b hb => if_neg (by omega))
            have e3 : (if a + 1 ≤ a then sf P mk (s + 1) a else sf P mk s a) = sf P mk s a := if_neg (by omega)
            have e4 : pv (fun b => if a + 1 ≤ b then sf P mk (s + 1) b else sf P mk s b) a = pv (sf P mk s) a := pv_congr (fun b hb => if_neg (by omega))
            rw [e1, e2, h3 a ha] at p1
            rw [e1, e2, e3, e4, h3 a ha, h4 a ha] at p2
            by_cases hba : b = a
            · subst hba
              rw [if_pos rfl] at p1 p2
              rw [if_pos (Nat.le_refl _), if_pos (Nat.le_refl _), p1, p2, cf, sf, cf]
              refine ⟨rfl, congrArg _ ?_⟩
              cases P (s + 1) b <;> rfl
            · rw [if_neg hba] at p1 p2
              rw [p1, p2]
              by_cases hc : a ≤ b
              · rw [if_pos hc, if_pos hc, if_pos (by omega), if_pos (by omega)]
                exact ⟨rfl, rfl⟩
              · rw [if_neg hc, if_neg hc, if_neg (by omega), if_neg (by omega)]
                exact ⟨rfl, rfl⟩
        · refine wp_some ⟨keeps.rf _ _, fun b hb => ?_⟩
          rw [hv a ha, Bool.or_eq_false_iff] at ht
          obtain ⟨p1, p2⟩ := hC b hb
          dsimp only at p1 p2 ⊢
          rw [p1, p2]
          by_cases hba : b = a
          · subst hba
            rw [if_neg (show ¬ b + 1 ≤ b from by omega), if_neg (show ¬ b + 1 ≤ b from by omega), if_pos (Nat.le_refl b), if_pos (Nat.le_refl b), cf_no ht.1, cf_no ht.2, sf_no ht.1, sf_no ht.2]
            exact ⟨rfl, rfl⟩
          · by_cases hc : a ≤ b
            · rw [if_pos hc, if_pos hc, if_pos (by omega), if_pos (by omega)]
              exact ⟨rfl, rfl⟩
            · rw [if_neg hc, if_neg hc, if_neg (by omega), if_neg (by omega)]
              exact ⟨rfl, rfl⟩
      refine wp_call step (fun N hN => wp_let ?_)
      rw [pm_p]
      exact ih a N (by omega) (by omega) (fun b hb => by rw [hN.1.i 103 0 0 _ rfl]; exact h3 b hb) (fun b hb => by rw [hN.1.i 104 0 0 _ rfl]; exact h4 b hb) hN.2
theorem c_walk_54 {n : Nat} {P mk : Nat → Nat → Bool} (hn : n ≤ 24) : ∀ (m s : Nat) (M : am_M), s ≤ n → n + 1 ≤ m + s → M.1 0 0 0 0 = Int32.ofNat n → (∀ t a, t ≤ n → a ≤ 24 → bt (M.1 103 0 0 t) a = P t a) → (∀ t a, t ≤ n → a ≤ 24 → bt (M.1 104 0 0 t) a = mk t a) → CN M (cf P s) (sf P mk s) → wp (l_X0_walk_54 m (Int32.ofNat (s + 1)) M) (fun N => CN N (cf P n) (sf P mk n)) := by
  intro m
  induction m with
  | zero => intro s M h1 h2; omega
  | succ m ih =>
    intro s M hs hm h0 h3 h4 hC
    rw [l_X0_walk_54, h0]
    refine wp_lt (by omega) (by omega) (fun h => ?_) (fun h => ?_)
    · have e : s = n := by omega
      subst e
      exact wp_some hC
    rw [i_m, i_cl (x := s) (by omega), i_cl (x := s + 1) (by omega)]
    refine wp_inb (by omega) (by omega) (wp_inb (by omega) (by omega) (wp_let ?_))
    refine wp_call (wp_km (c_walk_80 (P := P) (mk := mk) (by omega) (fun a ha => ?_) 1000 (s + 2) M (by omega) (by omega) (fun a ha => h3 _ a (by omega) ha) (fun a ha => h4 _ a (by omega) ha) (fun b hb => ?_)) (fr_l_X0_walk_80 _ _ _)) (fun N hN => wp_let ?_)
    · rw [bt_or, h3 s a (by omega) ha, h3 (s + 1) a (by omega) ha]
    · obtain ⟨p1, p2⟩ := hC b hb
      dsimp only
      rw [p1, p2]
      by_cases hc : s + 2 ≤ b
      · rw [if_pos hc, if_pos hc, cf_gt P (by omega), cf_gt P (by omega), sf_gt P mk (by omega), sf_gt P mk (by omega)]
        exact ⟨rfl, rfl⟩
      · rw [if_neg hc, if_neg hc]
        exact ⟨rfl, rfl⟩
    · rw [i_s]
      exact ih (s + 1) N (by omega) (by omega) ((hN.2.i _ _ _ _ rfl).trans h0) (fun t a ht ha => by rw [hN.2.i 103 0 0 _ rfl]; exact h3 t a ht ha) (fun t a ht ha => by rw [hN.2.i 104 0 0 _ rfl]; exact h4 t a ht ha) hN.1
theorem c_walk {M : am_M} {n e : Nat} {P : Nat → Nat → Bool} (hC : CL M n e P) (hn : n ≤ 24) : wp (f_X0_walk M) (fun N => CN N (cf P n) (sf P (fun t a => bt (M.1 104 0 0 t) a) n)) := by
  unfold f_X0_walk
  refine wp_call (wp_km (c_fill (by omega)) fr_f_J7_fill_53178) (fun N hN => ?_)
  obtain ⟨hN, hk⟩ := hN
  refine wp_call (wp_km (c_fill2 (by omega)) fr_f_J7_fill_d0a16) (fun N2 hN2 => ?_)
  obtain ⟨hN2, hk2⟩ := hN2
  have g3 : ∀ t, N2.1 103 0 0 t = M.1 103 0 0 t := fun t => (hk2.i 103 0 0 t rfl).trans (hk.i 103 0 0 t rfl)
  have g4 : ∀ t, N2.1 104 0 0 t = M.1 104 0 0 t := fun t => (hk2.i 104 0 0 t rfl).trans (hk.i 104 0 0 t rfl)
  refine wp_let (wp_let ?_)
  refine wp_call (c_walk_54 (P := P) (mk := fun t a => bt (M.1 104 0 0 t) a) hn 1000 0 _ (by omega) (by omega) ?_ ?_ ?_ ?_) (fun N3 hN3 => wp_some hN3)
  · rw [sl_i, si_k (by decide), hk2.i 0 0 0 0 rfl, hk.i 0 0 0 0 rfl]
    exact hC.1
  · intro t a ht ha
    rw [sl_i, si_k (by decide), g3]
    exact hC.2.2 t a ht ha
  · intro t a ht ha
    rw [sl_i, si_k (by decide), g4]
  · intro b hb
    rw [sl_i, si_e, sl_e, si_l, si_k (by decide), si_k (by decide), show (0 : Int32).toNatClampNeg = 0 from rfl, g3, g4, bt_a1, bt_a1, bt_and]
    have q := hC.2.2 0 0 (Nat.zero_le _) (by omega)
    by_cases hb0 : b = 0
    · subst hb0
      rw [if_pos rfl, if_pos rfl, q]
      refine ⟨?_, ?_⟩
      · rw [cf]
        cases P 0 0 <;> rfl
      · rw [sf, cf]
        cases P 0 0 <;> cases bt (M.1 104 0 0 0) 0 <;> rfl
    · rw [if_neg hb0, if_neg hb0, hN2 b (by omega), hk2.i 105 0 0 b rfl, hN b (by omega), cf_gt P (by omega), sf_gt P _ (by omega)]
      exact ⟨rfl, rfl⟩
theorem c_countRows {M : am_M} {n e : Nat} {P : Nat → Nat → Bool} (hC : CL M n e P) (hn : n ≤ 24) (he : e ≤ 24) : wp (f_X0_countRows M) (fun y => y.1 = Int32.ofNat (cf P n e)) := by
  unfold f_X0_countRows
  refine wp_call (wp_km (c_walk hC hn) fr_f_X0_walk) (fun N hN => ?_)
  obtain ⟨hN, hk⟩ := hN
  rw [hk.i 0 0 0 1 rfl, hC.2.1, i_cl (by omega)]
  exact wp_inb (by omega) (by omega) (wp_some (hN e he).1)
theorem c_sumMarks {M : am_M} {n e : Nat} {P mk : Nat → Nat → Bool} (hC : CL M n e P) (hm : MK M n mk) (hn : n ≤ 24) (he : e ≤ 24) : wp (f_X0_sumMarks M) (fun y => y.1 = Int64.ofNat (sf P mk n e)) := by
  unfold f_X0_sumMarks
  refine wp_call (wp_km (c_walk hC hn) fr_f_X0_walk) (fun N hN => ?_)
  obtain ⟨hN, hk⟩ := hN
  rw [hk.i 0 0 0 1 rfl, hC.2.1, i_cl (by omega)]
  refine wp_inb (by omega) (by omega) (wp_some ?_)
  show N.2 106 0 0 e = _
  rw [(hN e he).2, sf_congr (fun s b h1 h2 => ⟨rfl, hm s b h1 (by omega)⟩)]
