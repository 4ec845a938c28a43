/-! the class's tally: rows by how many marks they meet -/
def LY (M : am_M) (T : Nat → Nat → Nat) : Prop := ∀ a m, a ≤ 24 → m ≤ 24 → M.1 107 0 0 (a * 25 + m) = Int32.ofNat (T a m)
def tR (h : Bool) (T : Nat → Nat → Nat) (a m : Nat) : Nat := if h = true then T a m + pv (fun b => T b m) a else 0
theorem tR_congr {h : Bool} {T T' : Nat → Nat → Nat} {a m : Nat} (h1 : T a m = T' a m) (h2 : ∀ b, b < a → T b m = T' b m) : tR h T a m = tR h T' a m := by
  unfold tR
  rw [h1, pv_congr (u := fun b => T b m) (v := fun b => T' b m) h2]
theorem c_tallyStep {M : am_M} {X : Nat → Nat → Nat} {a j g : Nat} {h : Bool} (ha : a ≤ 24) (hj : j ≤ 24) (hg : g ≤ 1) (hX : LY M X) {f : am_M → Option am_M} {Q : am_M → Prop} (hQ : ∀ N, LY N (fun b m => if b = a ∧ m = j + g then tR h X a j else if b = a ∧ m = j then 0 else X b m) → wp (f N) Q) :
    wp (((if (if h = true then (1 : Int32) else 0) = 0 then some (0 : Int32) else if am_inb (Int32.ofNat (a * 25) + Int32.ofNat j) 625 = true then ((if Int32.ofNat a ≤ 0 then some (0 : Int32) else if am_inb ((Int32.ofNat (a * 25) - (25 : Int32)) + Int32.ofNat j) 625 = true then some (M.1 107 0 0 ((Int32.ofNat (a * 25) - (25 : Int32)) + Int32.ofNat j).toNatClampNeg) else none) : Option (Int32)).bind (fun z13 => am_let ((M.1 107 0 0 (Int32.ofNat (a * 25) + Int32.ofNat j).toNatClampNeg) + z13) (fun v18 => some v18)) else none) : Option (Int32)).bind (fun z9 => if am_inb (Int32.ofNat (a * 25) + Int32.ofNat j) 625 = true then am_let (am_si M 107 0 0 (Int32.ofNat (a * 25) + Int32.ofNat j).toNatClampNeg (0 : Int32)) (fun M21 => ((if (25 : Int32) ≤ (Int32.ofNat j + Int32.ofNat g) then some M21 else if am_inb ((Int32.ofNat (a * 25) + Int32.ofNat j) + Int32.ofNat g) 625 = true then am_let (am_si M21 107 0 0 ((Int32.ofNat (a * 25) + Int32.ofNat j) + Int32.ofNat g).toNatClampNeg z9) (fun M26 => some M26) else none) : Option (am_M)).bind f) else none)) Q := by
  rw [i_add (a * 25) j, i_add (a * 25 + j) g, i_add j g, i_cl (x := a * 25 + j) (by omega), i_cl (x := a * 25 + j + g) (by omega), hX a j ha hj]
  refine wp_call (Q := fun z => z = Int32.ofNat (tR h X a j)) ?_ (fun z hz => ?_)
  · cases h with
    | false => exact wp_pos (by decide) (wp_some rfl)
    | true =>
      refine wp_neg (by decide) (wp_inb (by omega) (by omega) ?_)
      refine wp_call (Q := fun z => z = Int32.ofNat (pv (fun b => X b j) a)) ?_ (fun z hz => wp_let (wp_some ?_))
      · refine wp_le (y := 0) (by omega) (by omega) (fun h' => ?_) (fun h' => ?_)
        · have e : a = 0 := by omega
          subst e
          exact wp_some rfl
        · obtain ⟨a', rfl⟩ : ∃ a', a = a' + 1 := ⟨a - 1, by omega⟩
          rw [show (25 : Int32) = Int32.ofNat 25 from rfl, i_sub (by omega), i_add, i_cl (by omega), show (a' + 1) * 25 - 25 + j = a' * 25 + j from by omega]
          refine wp_inb (by omega) (by omega) (wp_some ?_)
          rw [hX a' j (by omega) hj, pv_s]
      · rw [hz, i_add]
        rfl
  · refine wp_inb (by omega) (by omega) (wp_let ?_)
    refine wp_bind (wp_le (x := 25) (by omega) (by omega) (fun h' => ?_) (fun h' => ?_))
    · refine wp_some (hQ _ (fun b m hb hm => ?_))
      dsimp only
      rw [si_e]
      by_cases hc : b = a ∧ m = j
      · rw [if_pos (show b * 25 + m = a * 25 + j from by omega), if_neg (show ¬ (b = a ∧ m = j + g) from by omega), if_pos hc]
        rfl
      · rw [if_neg (show ¬ b * 25 + m = a * 25 + j from by omega), if_neg (show ¬ (b = a ∧ m = j + g) from by omega), if_neg hc]
        exact hX b m hb hm
    · refine wp_inb (by omega) (by omega) (wp_let (wp_some (hQ _ (fun b m hb hm => ?_))))
      dsimp only
      rw [si_e, si_e, hz]
      by_cases hc : b = a ∧ m = j + g
      · rw [if_pos (show b * 25 + m = a * 25 + j + g from by omega), if_pos hc]
      · rw [if_neg (show ¬ b * 25 + m = a * 25 + j + g from by omega), if_neg hc]
        by_cases hc2 : b = a ∧ m = j
        · rw [if_pos (show b * 25 + m = a * 25 + j from by omega), if_pos hc2]
          rfl
        · rw [if_neg (show ¬ b * 25 + m = a * 25 + j from by omega), if_neg hc2]
          exact hX b m hb hm
theorem c_tally0 {T : Nat → Nat → Nat} {a q : Nat} {h : Bool} (ha : a ≤ 24) (hq : q ≤ 24) : ∀ (m k : Nat) (M : am_M), k ≤ q + 1 → k + 1 ≤ m → LY M (fun b x => if b = a ∧ k ≤ x ∧ x ≤ q then tR h T a x else T b x) → wp (l_X0_tallyInto_42 (Int32.ofNat a) (Int32.ofNat (a * 25)) (if h = true then (1 : Int32) else 0) (Int32.ofNat 0) m (pm k) M) (fun N => LY N (fun b x => if b = a ∧ x ≤ q then tR h T a x else T b x)) := by
  intro m
  induction m with
  | zero => intro k M h1 h2; omega
  | succ m ih =>
    intro k M hk hm hX
    rw [l_X0_tallyInto_42]
    cases k with
    | zero =>
      refine wp_pos pm_0 (wp_some (fun b x hb hx => ?_))
      rw [hX b x hb hx]
      dsimp only
      by_cases hc : b = a ∧ x ≤ q
      · rw [if_pos hc, if_pos ⟨hc.1, Nat.zero_le _, hc.2⟩]
      · rw [if_neg hc, if_neg (fun z => hc ⟨z.1, z.2.2⟩)]
    | succ j =>
      refine wp_neg (pm_s (by omega)) ?_
      refine c_tallyStep (h := h) (g := 0) ha (by omega) (by omega) hX (fun N hN => wp_let ?_)
      rw [pm_p]
      refine ih j N (by omega) (by omega) (fun b x hb hx => ?_)
      rw [hN b x hb hx]
      dsimp only
      have e1 : tR h (fun b x => if b = a ∧ j + 1 ≤ x ∧ x ≤ q then tR h T a x else T b x) a j = tR h T a j := tR_congr (if_neg (by omega)) (fun b hb => if_neg (by omega))
      rw [e1]
      by_cases hc : b = a ∧ x = j
      · obtain ⟨rfl, rfl⟩ := hc
        rw [if_pos (show b = b ∧ x = x + 0 from ⟨rfl, rfl⟩), if_pos (show b = b ∧ x ≤ x ∧ x ≤ q from ⟨rfl, Nat.le_refl _, by omega⟩)]
      · rw [if_neg (show ¬ (b = a ∧ x = j + 0) from by omega), if_neg hc]
        by_cases hd : b = a ∧ j ≤ x ∧ x ≤ q
        · rw [if_pos hd, if_pos (show b = a ∧ j + 1 ≤ x ∧ x ≤ q from by omega)]
        · rw [if_neg hd, if_neg (show ¬ (b = a ∧ j + 1 ≤ x ∧ x ≤ q) from by omega)]
theorem c_tally1 {T : Nat → Nat → Nat} {a q : Nat} {h : Bool} (ha : a ≤ 24) (hq : q ≤ 24) : ∀ (m k : Nat) (M : am_M), k ≤ q + 1 → k + 1 ≤ m → LY M (fun b x => if b = a then (if x < k then T a x else if x = k then (if k ≤ q then 0 else T a x) else if x ≤ q + 1 then tR h T a (x - 1) else T a x) else T b x) → wp (l_X0_tallyInto_42 (Int32.ofNat a) (Int32.ofNat (a * 25)) (if h = true then (1 : Int32) else 0) (Int32.ofNat 1) m (pm k) M) (fun N => LY N (fun b x => if b = a then (if x = 0 then 0 else if x ≤ q + 1 then tR h T a (x - 1) else T a x) else T b x)) := by
  intro m
  induction m with
  | zero => intro k M h1 h2; omega
  | succ m ih =>
    intro k M hk hm hX
    rw [l_X0_tallyInto_42]
    cases k with
    | zero =>
      refine wp_pos pm_0 (wp_some (fun b x hb hx => ?_))
      rw [hX b x hb hx]
      dsimp only
      by_cases hc : b = a
      · rw [if_pos hc, if_pos hc, if_neg (Nat.not_lt_zero x)]
        by_cases h0 : x = 0
        · rw [if_pos h0, if_pos h0, if_pos (Nat.zero_le _)]
        · rw [if_neg h0, if_neg h0]
      · rw [if_neg hc, if_neg hc]
    | succ j =>
      refine wp_neg (pm_s (by omega)) ?_
      refine c_tallyStep (h := h) (g := 1) ha (by omega) (by omega) hX (fun N hN => wp_let ?_)
      rw [pm_p]
      refine ih j N (by omega) (by omega) (fun b x hb hx => ?_)
      rw [hN b x hb hx]
      dsimp only
      have e1 : tR h (fun b x => if b = a then (if x < j + 1 then T a x else if x = j + 1 then (if j + 1 ≤ q then 0 else T a x) else if x ≤ q + 1 then tR h T a (x - 1) else T a x) else T b x) a j = tR h T a j := tR_congr (by rw [if_pos rfl, if_pos (Nat.lt_succ_self j)]) (fun b hb => by rw [if_neg (show ¬ b = a from by omega)])
      rw [e1]
      by_cases hc : b = a
      · subst hc
        rw [if_pos (rfl : b = b)]
        by_cases h1 : x = j + 1
        · rw [if_pos (show b = b ∧ x = j + 1 from ⟨rfl, h1⟩), if_neg (show ¬ x < j from by omega), if_neg (show ¬ x = j from by omega), if_pos (show x ≤ q + 1 from by omega), h1, Nat.add_sub_cancel, if_pos rfl]
        · rw [if_neg (show ¬ (b = b ∧ x = j + 1) from fun z => h1 z.2)]
          by_cases h2 : x = j
          · rw [if_pos (show b = b ∧ x = j from ⟨rfl, h2⟩), if_neg (show ¬ x < j from by omega), if_pos h2, if_pos (show j ≤ q from by omega), if_pos rfl]
          · rw [if_neg (show ¬ (b = b ∧ x = j) from fun z => h2 z.2), if_pos (rfl : b = b), if_neg h2]
            by_cases h3 : x < j
            · rw [if_pos h3, if_pos (show x < j + 1 from by omega)]
            · rw [if_neg h3, if_neg (show ¬ x < j + 1 from by omega), if_neg h1]
      · rw [if_neg (show ¬ (b = a ∧ x = j + 1) from fun z => hc z.1), if_neg (show ¬ (b = a ∧ x = j) from fun z => hc z.1), if_neg hc, if_neg hc]
theorem c_tallyInto {M : am_M} {T : Nat → Nat → Nat} {t a q : Nat} (ht : t ≤ 24) (ha : a ≤ 24) (hq : q ≤ 24) (hX : LY M T) : wp (f_X0_tallyInto M (Int32.ofNat t) (Int32.ofNat a) (Int32.ofNat q)) (fun N => LY N (fun b x => if b = a then (if bt (M.1 104 0 0 t) a = true then (if x = 0 then 0 else if x ≤ q + 1 then tR (bt (M.1 103 0 0 t) a) T a (x - 1) else T a x) else (if x ≤ q then tR (bt (M.1 103 0 0 t) a) T a x else T a x)) else T b x)) := by
  unfold f_X0_tallyInto
  rw [show (25 : Int32) = Int32.ofNat 25 from rfl, i_mul, i_cl (x := t) (by omega)]
  refine wp_let (wp_inb (by omega) (by omega) ?_)
  refine wp_call (Q := fun z => z = if bt (M.1 103 0 0 t) a = true then (1 : Int32) else 0) ?_ (fun z hz => ?_)
  · refine wp_bt1 (by omega) (fun h => wp_some ?_) (fun h => wp_some ?_)
    · rw [h, if_pos rfl]
    · rw [h, if_neg (by decide)]
  · subst hz
    rw [bt_sh _ (by omega)]
    refine wp_inb (by omega) (by omega) (wp_let ?_)
    cases h4 : bt (M.1 104 0 0 t) a with
    | true =>
      refine wp_call (c_tally1 (T := T) (h := bt (M.1 103 0 0 t) a) ha hq 1000 (q + 1) M (by omega) (by omega) (fun b x hb hx => ?_)) (fun N hN => wp_some (fun b x hb hx => ?_))
      · rw [hX b x hb hx]
        dsimp only
        by_cases hc : b = a
        · subst hc
          rw [if_pos (rfl : b = b)]
          by_cases h1 : x < q + 1
          · rw [if_pos h1]
          · rw [if_neg h1]
            by_cases h2 : x = q + 1
            · rw [if_pos h2, if_neg (show ¬ q + 1 ≤ q from by omega)]
            · rw [if_neg h2, if_neg (show ¬ x ≤ q + 1 from by omega)]
        · rw [if_neg hc]
      · rw [hN b x hb hx]
        dsimp only
        rw [if_pos (rfl : true = true)]
    | false =>
      refine wp_call (c_tally0 (T := T) (h := bt (M.1 103 0 0 t) a) ha hq 1000 (q + 1) M (by omega) (by omega) (fun b x hb hx => ?_)) (fun N hN => wp_some (fun b x hb hx => ?_))
      · rw [hX b x hb hx]
        dsimp only
        rw [if_neg (show ¬ (b = a ∧ q + 1 ≤ x ∧ x ≤ q) from by omega)]
      · rw [hN b x hb hx]
        dsimp only
        rw [if_neg (show ¬ false = true from by decide)]
        by_cases hc : b = a
        · subst hc
          rw [if_pos (rfl : b = b)]
          by_cases h1 : x ≤ q
          · rw [if_pos (show b = b ∧ x ≤ q from ⟨rfl, h1⟩), if_pos h1]
          · rw [if_neg (show ¬ (b = b ∧ x ≤ q) from fun z => h1 z.2), if_neg h1]
        · rw [if_neg hc, if_neg (show ¬ (b = a ∧ x ≤ q) from fun z => hc z.1)]
theorem c_tally_60 {s q : Nat} {P mk : Nat → Nat → Bool} {v : Int32} (hs : s + 1 ≤ 24) (hq : q ≤ 24) (hz : ∀ b x, q < x → x ≤ 24 → tf P mk s b x = 0) (hv : ∀ a, a ≤ 24 → bt v a = (P s a || P (s + 1) a)) : ∀ (m k : Nat) (M : am_M), k ≤ s + 2 → k + 1 ≤ m → (∀ a, a ≤ 24 → bt (M.1 103 0 0 (s + 1)) a = P (s + 1) a) → (∀ a, a ≤ 24 → bt (M.1 104 0 0 (s + 1)) a = mk (s + 1) a) → LY M (fun b x => if k ≤ b then tf P mk (s + 1) b x else tf P mk s b x) → wp (l_X0_tallyMarks_60 (Int32.ofNat q) (Int32.ofNat (s + 1)) v m (pm k) M) (fun N => LY N (tf P mk (s + 1))) := by
  intro m
  induction m with
  | zero => intro k M h1 h2; omega
  | succ m ih =>
    intro k M hk hm h3 h4 hC
    rw [l_X0_tallyMarks_60]
    cases k with
    | zero =>
      refine wp_pos pm_0 (wp_some (fun b x hb hx => ?_))
      rw [hC b x hb hx]
      dsimp only
      rw [if_pos (Nat.zero_le _)]
    | succ a =>
      refine wp_neg (pm_s (by omega)) ?_
      have ha : a ≤ 24 := by omega
      have step : wp ((if ((v >>> (pm (a + 1) &&& 31)) &&& (1 : Int32)) = (1 : Int32) then (f_X0_tallyInto M (Int32.ofNat (s + 1)) (pm (a + 1)) (Int32.ofNat q)).bind (fun r13 => some r13) else some M) : Option (am_M)) (fun N => keeps [(107, some 0, none)] M N ∧ LY N (fun b x => if a ≤ b then tf P mk (s + 1) b x else tf P mk s b x)) := by
        show wp (if ((v >>> (Int32.ofNat a &&& 31)) &&& (1 : Int32)) = (1 : Int32) then (f_X0_tallyInto M (Int32.ofNat (s + 1)) (Int32.ofNat a) (Int32.ofNat q)).bind (fun r13 => some r13) else some M) _
        refine wp_bt1 (by omega) (fun ht => ?_) (fun ht => ?_)
        · refine wp_call (wp_km (c_tallyInto hs ha hq hC) fr_f_X0_tallyInto) (fun N hN => wp_some ⟨hN.2, fun b x hb hx => ?_⟩)
          rw [hN.1 b x hb hx, h3 a ha, h4 a ha]
          dsimp only
          have er : ∀ y, tR (P (s + 1) a) (fun b x => if a + 1 ≤ b then tf P mk (s + 1) b x else tf P mk s b x) a y = if P (s + 1) a = true then tf P mk s a y + pv (fun b => tf P mk s b y) a else 0 := by
            intro y
            show _ = tR (P (s + 1) a) (tf P mk s) a y
            exact tR_congr (if_neg (by omega)) (fun b hb => if_neg (by omega))
          by_cases hba : b = a
          · subst hba
            rw [if_pos (rfl : b = b), if_pos (Nat.le_refl b), er, er, if_neg (show ¬ b + 1 ≤ b from by omega)]
            congr 1
            rw [tf]
            cases hP : P (s + 1) b with
            | false =>
              simp only [Bool.false_eq_true, if_false]
              cases mk (s + 1) b with
              | false =>
                simp only [Bool.false_eq_true, if_false]
                by_cases h1 : x ≤ q
                · rw [if_pos h1]
                · rw [if_neg h1, hz b x (by omega) hx]
              | true =>
                simp only [if_true]
                by_cases h0 : x = 0
                · rw [if_pos h0]
                · rw [if_neg h0]
                  by_cases h1 : x ≤ q + 1
                  · rw [if_pos h1]
                  · rw [if_neg h1, hz b x (by omega) hx]
            | true =>
              simp only [if_true]
              cases mk (s + 1) b with
              | false =>
                simp only [Bool.false_eq_true, if_false]
                by_cases h1 : x ≤ q
                · rw [if_pos h1]
                · rw [if_neg h1, hz b x (by omega) hx, pv_zero (fun c _ => hz c x (by omega) hx)]
              | true =>
                simp only [if_true]
                by_cases h0 : x = 0
                · rw [if_pos h0, if_pos h0]
                · rw [if_neg h0, if_neg h0]
                  by_cases h1 : x ≤ q + 1
                  · rw [if_pos h1]
                  · rw [if_neg h1, hz b x (by omega) hx, hz b (x - 1) (by omega) (by omega), pv_zero (fun c _ => hz c (x - 1) (by omega) (by omega))]
          · rw [if_neg hba]
            by_cases hc : a ≤ b
            · rw [if_pos hc, if_pos (show a + 1 ≤ b from by omega)]
            · rw [if_neg hc, if_neg (show ¬ a + 1 ≤ b from by omega)]
        · refine wp_some ⟨keeps.rf _ _, fun b x hb hx => ?_⟩
          rw [hv a ha, Bool.or_eq_false_iff] at ht
          rw [hC b x hb hx]
          dsimp only
          by_cases hba : b = a
          · subst hba
            rw [if_neg (show ¬ b + 1 ≤ b from by omega), if_pos (Nat.le_refl b), tf_no ht.1, tf_no ht.2]
          · by_cases hc : a ≤ b
            · rw [if_pos hc, if_pos (show a + 1 ≤ b from by omega)]
            · rw [if_neg hc, if_neg (show ¬ a + 1 ≤ b from by omega)]
      refine wp_call step (fun N hN => wp_let ?_)
      rw [pm_p]
      exact ih a N (by omega) (by omega) (fun b hb => by rw [hN.1.i 103 0 0 _ rfl]; exact h3 b hb) (fun b hb => by rw [hN.1.i 104 0 0 _ rfl]; exact h4 b hb) hN.2
theorem c_tally_33 {n : Nat} {P mk : Nat → Nat → Bool} (hn : n ≤ 24) : ∀ (m s q : Nat) (M : am_M), s ≤ n → n + 1 ≤ m + s → q ≤ 24 → (∀ b x, q < x → x ≤ 24 → tf P mk s b x = 0) → M.1 0 0 0 0 = Int32.ofNat n → (∀ t a, t ≤ n → a ≤ 24 → bt (M.1 103 0 0 t) a = P t a) → (∀ t a, t ≤ n → a ≤ 24 → bt (M.1 104 0 0 t) a = mk t a) → LY M (tf P mk s) → wp (l_X0_tallyMarks_33 m (Int32.ofNat q) (Int32.ofNat (s + 1)) M) (fun N => LY N (tf P mk n)) := by
  intro m
  induction m with
  | zero => intro s q M h1 h2; omega
  | succ m ih =>
    intro s q M hs hm hq hz h0 h3 h4 hC
    rw [l_X0_tallyMarks_33, h0]
    refine wp_lt (by omega) (by omega) (fun h => ?_) (fun h => ?_)
    · have e : s = n := by omega
      subst e
      exact wp_some hC
    rw [i_m, i_cl (x := s) (by omega), i_cl (x := s + 1) (by omega)]
    refine wp_inb (by omega) (by omega) (wp_inb (by omega) (by omega) (wp_let ?_))
    refine wp_call (wp_km (c_tally_60 (P := P) (mk := mk) (by omega) hq hz (fun a ha => ?_) 1000 (s + 2) M (by omega) (by omega) (fun a ha => h3 _ a (by omega) ha) (fun a ha => h4 _ a (by omega) ha) (fun b x hb hx => ?_)) (fr_l_X0_tallyMarks_60 _ _ _)) (fun N hN => wp_inb (by omega) (by omega) ?_)
    · rw [bt_or, h3 s a (by omega) ha, h3 (s + 1) a (by omega) ha]
    · rw [hC b x hb hx]
      dsimp only
      by_cases hc : s + 2 ≤ b
      · rw [if_pos hc, tf_gt P mk (show s < b from by omega), tf_gt P mk (show s + 1 < b from by omega)]
      · rw [if_neg hc]
    · obtain ⟨hN, hk⟩ := hN
      rw [hk.i 104 0 0 _ rfl]
      refine wp_call (Q := fun z => ∃ g, z = Int32.ofNat g ∧ q + g ≤ 24 ∧ (∀ b x, q + g < x → x ≤ 24 → tf P mk (s + 1) b x = 0)) ?_ (fun z hz' => ?_)
      · refine wp_ite (fun hm0 => wp_some ⟨0, rfl, by omega, fun b x h1 h2 => ?_⟩) (fun hm0 => ?_)
        · rw [tf]
          have e1 : mk (s + 1) b = true → tf P mk (s + 1) b x = 0 := fun e => by
            by_cases hb : b ≤ 24
            · have := h4 (s + 1) b (by omega) hb
              rw [hm0, bt_0, e] at this
              cases this
            · exact tf_gt P mk (by omega) x
          cases hmk : mk (s + 1) b with
          | true =>
            have := e1 hmk
            rw [tf, hmk] at this
            exact this
          | false =>
            rw [hz b x (by omega) h2, pv_zero (fun c _ => hz c x (by omega) h2)]
            cases P (s + 1) b <;> rfl
        · refine wp_le (x := 24) (by omega) (by omega) (fun h24 => wp_some ⟨0, rfl, by omega, fun b x h1 h2 => by omega⟩) (fun h24 => wp_some ⟨1, rfl, by omega, fun b x h1 h2 => ?_⟩)
          rw [tf, hz b x (by omega) h2, pv_zero (fun c _ => hz c x (by omega) h2), hz b (x - 1) (by omega) (by omega), pv_zero (fun c _ => hz c (x - 1) (by omega) (by omega))]
          cases P (s + 1) b <;> cases mk (s + 1) b <;> simp
      · obtain ⟨g, rfl, g1, g2⟩ := hz'
        refine wp_let (wp_let ?_)
        rw [i_add, i_s]
        exact ih (s + 1) (q + g) N (by omega) (by omega) g1 g2 ((hk.i _ _ _ _ rfl).trans h0) (fun t a ht ha => by rw [hk.i 103 0 0 _ rfl]; exact h3 t a ht ha) (fun t a ht ha => by rw [hk.i 104 0 0 _ rfl]; exact h4 t a ht ha) hN
theorem c_tallyMarks {M : am_M} {n e : Nat} {P mk : Nat → Nat → Bool} (hC : CL M n e P) (hm : MK M n mk) (hn : n ≤ 24) (he : e ≤ 24) : wp (f_X0_tallyMarks M) (fun N => ∀ x, x ≤ 24 → N.1 102 0 0 x = Int32.ofNat (tf P mk n e x)) := by
  unfold f_X0_tallyMarks
  refine wp_call (wp_km (c_fill (by omega)) fr_f_J7_fill_53178) (fun N hN => ?_)
  obtain ⟨hN, hk⟩ := hN
  rw [show (0 : Int32).toNatClampNeg = 0 from rfl, hk.i 104 0 0 0 rfl, hk.i 103 0 0 0 rfl, bt_a1, bt_a1, hm 0 0 (Nat.zero_le _) (by omega), hC.2.2 0 0 (Nat.zero_le _) (by omega)]
  have eg : (if mk 0 0 = true then (1 : Int32) else 0) = Int32.ofNat (if mk 0 0 = true then 1 else 0) := by cases mk 0 0 <;> rfl
  have g1 : (if mk 0 0 = true then 1 else 0) ≤ 1 := by cases mk 0 0 <;> decide
  rw [eg]
  generalize hg : (if mk 0 0 = true then 1 else 0) = g at g1
  refine wp_let (wp_inb (by omega) (by omega) (wp_let ?_))
  rw [i_cl (by omega)]
  refine wp_call (wp_km (c_tally_33 (P := P) (mk := mk) hn 1000 0 g _ (by omega) (by omega) (by omega) (fun b x h1 h2 => ?_) ?_ ?_ ?_ ?_) (fr_l_X0_tallyMarks_33 _ _ _ _)) (fun N3 hN3 => ?_)
  · rw [tf]
    cases b with
    | zero => rw [hg, if_neg (by omega)]
    | succ b => rw [cf_gt P (Nat.succ_pos b), ite_self]
  · rw [si_k (by decide), hk.i 0 0 0 0 rfl]
    exact hC.1
  · intro t a ht ha
    rw [si_k (by decide), hk.i 103 0 0 t rfl]
    exact hC.2.2 t a ht ha
  · intro t a ht ha
    rw [si_k (by decide), hk.i 104 0 0 t rfl]
    exact hm t a ht ha
  · intro b x hb hx
    rw [si_e, hN _ (by omega), tf]
    cases b with
    | zero =>
      rw [hg]
      by_cases hc : x = g
      · rw [if_pos (by omega), if_pos hc, cf]
        cases P 0 0 <;> rfl
      · rw [if_neg (by omega), if_neg hc]
        rfl
    | succ b =>
      rw [cf_gt P (Nat.succ_pos b), if_neg (by omega), ite_self]
      rfl
  · obtain ⟨hN3, hk3⟩ := hN3
    rw [hk3.i 0 0 0 1 rfl, si_k (by decide), hk.i 0 0 0 1 rfl, hC.2.1, show (25 : Int32) = Int32.ofNat 25 from rfl, i_mul, i_cl (x := e * 25) (by omega), i_cl (x := 25) (by omega)]
    refine wp_pos ⟨i_0l _ (by omega), by decide, by decide, by omega, by decide⟩ (wp_let (wp_some (fun x hx => ?_)))
    rw [ri_e]
    unfold va_cpy
    rw [if_pos (by omega), Nat.sub_zero]
    exact hN3 e x he hx
theorem c_tallyFrom_8 {M : am_M} {x : Nat} {τ : Nat → Nat} (hM : ∀ m, m ≤ 24 → M.1 102 0 0 m = Int32.ofNat (τ m)) : ∀ (m j : Nat), x ≤ j → j ≤ 25 → 26 ≤ m + j → wp (l_X0_tallyFrom_8 M m (Int32.ofNat (sm (fun i => if x ≤ i then τ i else 0) j)) (Int32.ofNat j)) (fun y => y = Int32.ofNat (sm (fun i => if x ≤ i then τ i else 0) 25)) := by
  intro m
  induction m with
  | zero => intro j h1 h2 h3; omega
  | succ m ih =>
    intro j h1 h2 h3
    rw [l_X0_tallyFrom_8]
    refine wp_le (x := 25) (by omega) (by omega) (fun h => ?_) (fun h => ?_)
    · have e : j = 25 := by omega
      subst e
      exact wp_some rfl
    refine wp_inb (by omega) (by omega) (wp_let (wp_let ?_))
    rw [i_cl (by omega), hM j (by omega), i_add, i_s]
    have e : sm (fun i => if x ≤ i then τ i else 0) j + τ j = sm (fun i => if x ≤ i then τ i else 0) (j + 1) := by rw [sm, if_pos h1]
    rw [e]
    exact ih (j + 1) (by omega) (by omega) (by omega)
theorem c_tallyFrom {M : am_M} {x : Nat} {τ : Nat → Nat} (hx : x ≤ 25) (hM : ∀ m, m ≤ 24 → M.1 102 0 0 m = Int32.ofNat (τ m)) : f_X0_tallyFrom M (Int32.ofNat x) = some (Int32.ofNat (sm (fun i => if x ≤ i then τ i else 0) 25)) := by
  have e1 : (if (0 : Int32) < Int32.ofNat x then Int32.ofNat x else (0 : Int32)) = Int32.ofNat x := by
    by_cases h : 0 < x
    · rw [if_pos (by rw [show (0 : Int32) = Int32.ofNat 0 from rfl, i_lt (by omega) (by omega)]; exact h)]
    · have : x = 0 := by omega
      subst this
      rfl
  have h : wp (f_X0_tallyFrom M (Int32.ofNat x)) (fun y => y = Int32.ofNat (sm (fun i => if x ≤ i then τ i else 0) 25)) := by
    unfold f_X0_tallyFrom
    rw [e1]
    refine wp_let (wp_call ?_ (fun y hy => wp_some hy))
    have := c_tallyFrom_8 hM 1000 x (Nat.le_refl _) hx (by omega)
    rw [sm_zero (fun a ha => if_neg (by omega))] at this
    exact this
  obtain ⟨y, hy, rfl⟩ := h
  exact hy
