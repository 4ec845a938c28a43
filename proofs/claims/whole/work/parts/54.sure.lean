/-! when it is sure -/
def qm (P mk : Nat → Nat → Bool) (m s b : Nat) : Bool := P s b && (if s < m then mk s b else !mk s b)
def qu (P mk : Nat → Nat → Bool) (s b : Nat) : Bool := P s b && mk s b
theorem qm_lt {P mk : Nat → Nat → Bool} {m s b : Nat} (h : s < m) : qm P mk m s b = (P s b && mk s b) := by unfold qm; rw [if_pos h]
theorem qm_ge {P mk : Nat → Nat → Bool} {m s b : Nat} (h : m ≤ s) : qm P mk m s b = (P s b && !mk s b) := by unfold qm; rw [if_neg (by omega)]
theorem cf_s {P : Nat → Nat → Bool} {t a : Nat} (h : P (t + 1) a = true) : cf P (t + 1) a = cf P t a + pv (cf P t) a := by rw [cf, if_pos h]
theorem qm_qu (P mk : Nat → Nat → Bool) (t b : Nat) : cf (qm P mk (t + 1)) t b = cf (qu P mk) t b := cf_congr (fun s c h1 _ _ => qm_lt (by omega))
theorem tf_mono {P mk : Nat → Nat → Bool} (h1 : ∀ t a, mk (t + 1) a = true → mk t a = true) (h2 : ∀ t a, mk (t + 1) (a + 1) = true → mk t a = true) : ∀ (t a m : Nat), tf P mk t a m = if m ≤ t then cf (qm P mk m) t a else if m = t + 1 then cf (qu P mk) t a else 0
  | 0, a, m => by
    rw [tf]
    by_cases hm0 : m = 0
    · subst hm0
      rw [if_pos (Nat.le_refl 0), cf, cf, qm_ge (Nat.le_refl 0)]
      cases mk 0 a <;> cases P 0 a <;> simp
    · rw [if_neg (show ¬ m ≤ 0 from by omega)]
      by_cases hm1 : m = 1
      · subst hm1
        rw [if_pos (rfl : 1 = 0 + 1), cf, cf]
        unfold qu
        cases mk 0 a <;> cases P 0 a <;> simp
      · rw [if_neg (show ¬ m = 0 + 1 from by omega), if_neg (by cases mk 0 a <;> simp <;> omega)]
  | t + 1, a, m => by
    rw [tf]
    cases hP : P (t + 1) a with
    | false =>
      rw [if_neg (by decide), cf_no (P := qm P mk m) (by unfold qm; rw [hP]; rfl), cf_no (P := qu P mk) (by unfold qu; rw [hP]; rfl), ite_self, ite_self]
    | true =>
      rw [if_pos rfl]
      cases hk : mk (t + 1) a with
      | true =>
        rw [if_pos rfl]
        have pr : ∀ m', m' ≤ t → tf P mk t a m' = 0 := fun m' hm' => by
          rw [tf_mono h1 h2 t a m', if_pos hm']
          exact cf_no (by rw [qm_ge hm', h1 t a hk]; simp)
        have pr2 : ∀ m', m' ≤ t → pv (fun b => tf P mk t b m') a = 0 := fun m' hm' => by
          cases a with
          | zero => rfl
          | succ a =>
            rw [pv_s, tf_mono h1 h2 t a m', if_pos hm']
            exact cf_no (by rw [qm_ge hm', h2 t a hk]; simp)
        by_cases hm0 : m = 0
        · rw [if_pos hm0, if_pos (show m ≤ t + 1 from by omega), cf_no (by rw [qm_ge (by omega), hk]; simp)]
        · rw [if_neg hm0]
          by_cases hm1 : m ≤ t + 1
          · rw [if_pos hm1, pr _ (by omega), pr2 _ (by omega), cf_no (by rw [qm_ge hm1, hk]; simp)]
          · rw [if_neg hm1]
            by_cases hm2 : m = t + 1 + 1
            · subst hm2
              rw [if_pos rfl, Nat.add_sub_cancel, cf_s (by unfold qu; rw [hP, hk]; rfl), tf_mono h1 h2 t a (t + 1), if_neg (by omega), if_pos rfl]
              congr 1
              exact pv_congr (fun b _ => by rw [tf_mono h1 h2 t b (t + 1), if_neg (by omega), if_pos rfl])
            · rw [if_neg hm2, tf_big P mk (by omega), pv_zero (fun b _ => tf_big P mk (by omega) b)]
      | false =>
        rw [if_neg (by decide)]
        by_cases hm : m ≤ t
        · rw [if_pos (show m ≤ t + 1 from by omega), cf_s (by rw [qm_ge (by omega), hP, hk]; rfl), tf_mono h1 h2 t a m, if_pos hm]
          congr 1
          exact pv_congr (fun b _ => by rw [tf_mono h1 h2 t b m, if_pos hm])
        · by_cases hm1 : m = t + 1
          · subst hm1
            rw [if_pos (Nat.le_refl _), cf_s (by rw [qm_ge (Nat.le_refl _), hP, hk]; rfl), tf_mono h1 h2 t a (t + 1), if_neg (by omega), if_pos rfl, qm_qu]
            congr 1
            exact pv_congr (fun b _ => by rw [tf_mono h1 h2 t b (t + 1), if_neg (by omega), if_pos rfl, qm_qu])
          · rw [if_neg (show ¬ m ≤ t + 1 from by omega), tf_big P mk (by omega), pv_zero (fun b _ => tf_big P mk (by omega) b), cf_no (P := qu P mk) (by unfold qu; rw [hk]; simp), ite_self]
theorem bw_sure {P mk : Nat → Nat → Bool} {m e : Nat} (h1 : ∀ t a, mk (t + 1) a = true → mk t a = true) (h2 : ∀ t a, mk (t + 1) (a + 1) = true → mk t a = true) : ∀ (k t a : Nat), m ≤ t → mk t a = false → bw (qm P mk m) e k t a = bw P e k t a
  | 0, t, a, _, _ => rfl
  | k + 1, t, a, hm, hk => by
    have e1 : mk (t + 1) a = false := by
      cases hx : mk (t + 1) a with
      | false => rfl
      | true => rw [h1 t a hx] at hk; cases hk
    have e2 : mk (t + 1) (a + 1) = false := by
      cases hx : mk (t + 1) (a + 1) with
      | false => rfl
      | true => rw [h2 t a hx] at hk; cases hk
    rw [bw, bw, qm_ge (by omega), qm_ge (by omega), e1, e2, bw_sure h1 h2 k (t + 1) a (by omega) e1, bw_sure h1 h2 k (t + 1) (a + 1) (by omega) e2]
    simp
theorem tf_first {P mk : Nat → Nat → Bool} {n e m : Nat} (h1 : ∀ t a, mk (t + 1) a = true → mk t a = true) (h2 : ∀ t a, mk (t + 1) (a + 1) = true → mk t a = true) (hm : m ≤ n) : tf P mk n e m = sm (fun a => cf (qm P mk m) m a * bk P n e m a) (m + 1) := by
  rw [tf_mono h1 h2, if_pos hm, ← fb (qm P mk m) e hm]
  refine sm_congr (fun a _ => ?_)
  unfold bk
  cases hk : mk m a with
  | true => rw [cf_no (by rw [qm_ge (Nat.le_refl m), hk]; simp), Nat.zero_mul, Nat.zero_mul]
  | false =>
    cases hP : P m a with
    | false => rw [cf_no (by rw [qm_ge (Nat.le_refl m), hP]; simp), Nat.zero_mul, Nat.zero_mul]
    | true => rw [if_pos rfl, bw_sure h1 h2 _ m a (Nat.le_refl m) hk]
theorem us_1 (n t a : Nat) (h : us n (t + 1) a = true) : us n t a = true := by
  unfold us at *
  rw [decide_eq_true_eq] at *
  omega
theorem us_2 (n t a : Nat) (h : us n (t + 1) (a + 1) = true) : us n t a = true := by
  unfold us at *
  rw [decide_eq_true_eq] at *
  omega
theorem us_n (n a : Nat) : us n n a = false := by
  unfold us
  rw [decide_eq_false_iff_not]
  omega
/-! ahead until it is sure -/
def QS (P : Nat → Nat → Bool) (n k s a : Nat) : Bool := P s a && (!decide (1 ≤ s ∧ s ≤ n) || (ah k s a || decide (n < 2 * a)))
theorem qs_us {P : Nat → Nat → Bool} {n k s b : Nat} (hs : s ≤ n) (hu : us n s b = true) : QS P n k s b = cq P (ah k) s b := by
  unfold us at hu
  rw [decide_eq_true_eq] at hu
  unfold QS cq
  rw [decide_eq_false (show ¬ n < 2 * b from by omega), Bool.or_false]
  by_cases h0 : s = 0
  · rw [decide_eq_true h0, decide_eq_false (by omega)]
    simp
  · rw [decide_eq_false h0, decide_eq_true (show 1 ≤ s ∧ s ≤ n from by omega)]
    simp
theorem qs_quc {P : Nat → Nat → Bool} {n k s b : Nat} (hs : s ≤ n) : (QS P n k s b && us n s b) = (cq P (ah k) s b && us n s b) := by
  cases hu : us n s b with
  | false => simp
  | true => rw [qs_us hs hu]
theorem ah_up {k t a : Nat} (h : ah k t a = true) : ah k (t + 1) (a + 1) = true := by
  unfold ah at *
  rw [decide_eq_true_eq] at *
  have e1 : k * (t + 1) = k * t + k := by rw [Nat.mul_add, Nat.mul_one]
  have e2 : (a + 1) * (k + 1) = a * (k + 1) + (k + 1) := by rw [Nat.add_mul, Nat.one_mul]
  omega
theorem ah_11 (k : Nat) : ah k 1 1 = true := by
  unfold ah
  rw [decide_eq_true_eq]
  omega
theorem qs_1 {P : Nat → Nat → Bool} {n k m a : Nat} (hm : m ≤ n) (ha : a ≤ m) : cf (qm (QS P n k) (us n) m) m a = cf (qm (cq P (ah k)) (us n) m) m a := by
  cases m with
  | zero =>
    refine cf_congr (fun s b h1 h2 _ => ?_)
    have e1 : s = 0 := by omega
    subst e1
    unfold qm QS cq
    simp
  | succ m =>
    have e1 : ∀ b, cf (qm (QS P n k) (us n) (m + 1)) m b = cf (qu (cq P (ah k)) (us n)) m b := fun b => cf_congr (fun s c h1 _ _ => by rw [qm_lt (by omega)]; exact qs_quc (by omega))
    have e2 : ∀ b, cf (qm (cq P (ah k)) (us n) (m + 1)) m b = cf (qu (cq P (ah k)) (us n)) m b := fun b => qm_qu _ _ m b
    rw [cf, cf, e1, e2, pv_congr (fun b _ => e1 b), pv_congr (fun b _ => e2 b), qm_ge (Nat.le_refl _), qm_ge (Nat.le_refl _)]
    cases hu : us n (m + 1) a with
    | true => simp
    | false =>
      have eQ : QS P n k (m + 1) a = (P (m + 1) a && (ah k (m + 1) a || decide (n < 2 * a))) := by
        unfold QS
        rw [decide_eq_true (show 1 ≤ m + 1 ∧ m + 1 ≤ n from by omega), Bool.not_true, Bool.false_or]
      have eC : cq P (ah k) (m + 1) a = (P (m + 1) a && ah k (m + 1) a) := by
        unfold cq
        rw [decide_eq_false (show ¬ m + 1 = 0 from by omega), Bool.false_or]
      rw [Bool.not_false, Bool.and_true, Bool.and_true, eQ, eC]
      cases hh : ah k (m + 1) a with
      | true => rw [Bool.true_or]
      | false =>
        rw [Bool.false_or, Bool.and_false]
        rw [if_neg (show ¬ false = true from by decide)]
        by_cases hn : n < 2 * a
        · have z1 : cf (qu (cq P (ah k)) (us n)) m a = 0 := cf_no (by
            have : us n m a = false := by
              unfold us
              rw [decide_eq_false_iff_not]
              omega
            unfold qu
            rw [this, Bool.and_false])
          have z2 : pv (cf (qu (cq P (ah k)) (us n)) m) a = 0 := by
            cases a with
            | zero => rfl
            | succ a =>
              rw [pv_s]
              refine cf_no ?_
              cases hq : qu (cq P (ah k)) (us n) m a with
              | false => rfl
              | true =>
                unfold qu cq at hq
                simp only [Bool.and_eq_true, Bool.or_eq_true, decide_eq_true_eq] at hq
                rcases hq.1.2 with h0 | h0
                · subst h0
                  have ha0 : a = 0 := by omega
                  subst ha0
                  rw [ah_11] at hh
                  cases hh
                · rw [ah_up h0] at hh
                  cases hh
          rw [z1, z2, Nat.add_zero, ite_self]
        · rw [decide_eq_false hn, Bool.and_false, if_neg (by decide)]
theorem qs_2 {P : Nat → Nat → Bool} {n k m e : Nat} : ∀ (j t a : Nat), m ≤ t → t + j ≤ n → (j = 0 ∨ (us n t a = false ∧ (n < 2 * a ∨ (k = 0 ∧ 0 < a)))) → bw (qm (QS P n k) (us n) m) e j t a = bw P e j t a
  | 0, t, a, _, _, _ => rfl
  | j + 1, t, a, hm, hj, hg => by
    rcases hg with h0 | ⟨hu, hg⟩
    · cases h0
    have u1 : us n (t + 1) a = false := by
      cases hx : us n (t + 1) a with
      | false => rfl
      | true => rw [us_1 n t a hx] at hu; cases hu
    have u2 : us n (t + 1) (a + 1) = false := by
      cases hx : us n (t + 1) (a + 1) with
      | false => rfl
      | true => rw [us_2 n t a hx] at hu; cases hu
    have key : ∀ b, us n (t + 1) b = false → (n < 2 * b ∨ (k = 0 ∧ 0 < b)) → qm (QS P n k) (us n) m (t + 1) b = P (t + 1) b := by
      intro b hb hg
      rw [qm_ge (by omega), hb]
      unfold QS
      have e1 : (ah k (t + 1) b || decide (n < 2 * b)) = true := by
        rcases hg with h | ⟨h, h'⟩
        · rw [decide_eq_true h, Bool.or_true]
        · subst h
          unfold ah
          rw [decide_eq_true (by omega), Bool.true_or]
      rw [e1]
      simp
    rw [bw, bw, key a u1 hg, key (a + 1) u2 (by omega), qs_2 j (t + 1) a (by omega) (by omega) (Or.inr ⟨u1, hg⟩), qs_2 j (t + 1) (a + 1) (by omega) (by omega) (Or.inr ⟨u2, by omega⟩)]
theorem surely_eq {P : Nat → Nat → Bool} {n k e : Nat} : sm (fun t => sm (fun a => cf (qm (cq P (ah k)) (us n) t) t a * bk P n e t a) (t + 1)) (n + 1) = cf (QS P n k) n e := by
  rw [← tf_sum (QS P n k) (us n) n e]
  show _ = sm (fun m => tf (QS P n k) (us n) n e m) (n + 1) + tf (QS P n k) (us n) n e (n + 1)
  rw [tf_mono (us_1 n) (us_2 n) n e (n + 1), if_neg (by omega), if_pos rfl, cf_no (by unfold qu; rw [us_n]; simp), Nat.add_zero]
  refine sm_congr (fun m hm => ?_)
  rw [tf_mono (us_1 n) (us_2 n) n e m, if_pos (by omega), ← fb (qm (QS P n k) (us n) m) e (t := m) (n := n) (by omega)]
  refine sm_congr (fun a ha => ?_)
  rw [qs_1 (by omega) (by omega)]
  cases hq : qm (cq P (ah k)) (us n) m m a with
  | false => rw [cf_no hq, Nat.zero_mul, Nat.zero_mul]
  | true =>
    rw [qm_ge (Nat.le_refl m)] at hq
    unfold cq at hq
    simp only [Bool.and_eq_true, Bool.or_eq_true, decide_eq_true_eq, Bool.not_eq_true'] at hq
    obtain ⟨⟨hP, hh⟩, hu⟩ := hq
    unfold bk
    rw [if_pos hP, qs_2 (n - m) m a (Nat.le_refl m) (by omega)]
    by_cases hmn : m = n
    · exact Or.inl (by omega)
    · refine Or.inr ⟨hu, ?_⟩
      unfold us at hu
      rw [decide_eq_false_iff_not] at hu
      by_cases hn : n < 2 * a
      · exact Or.inl hn
      · rcases hh with h0 | h0
        · omega
        · unfold ah at h0
          rw [decide_eq_true_eq, ah_iff (show a ≤ m from by omega)] at h0
          by_cases hk0 : k = 0
          · exact Or.inr ⟨hk0, by omega⟩
          · have h3 : 1 * (m - a) ≤ k * (m - a) := Nat.mul_le_mul_right _ (by omega)
            omega
/-! a cell's value while it isn't sure, and when it comes to be -/
theorem q_us {R mk : Nat → Nat → Bool} {t x : Nat} (hx : x ≤ t) (hk : mk t x = true) : (if R t x = true then (if t = 0 then 1 else cf (qu R mk) (t - 1) x + pv (cf (qu R mk) (t - 1)) x) else 0) = cf (qu R mk) t x := by
  cases t with
  | zero =>
    have e : x = 0 := by omega
    subst e
    rw [cf]
    unfold qu
    rw [hk]
    cases R 0 0 <;> simp
  | succ t =>
    rw [if_neg (show ¬ t + 1 = 0 from by omega), Nat.add_sub_cancel, cf]
    have e : qu R mk (t + 1) x = R (t + 1) x := by unfold qu; rw [hk, Bool.and_true]
    rw [e]
theorem q_sure {R mk : Nat → Nat → Bool} {t x : Nat} (hx : x ≤ t) (hk : mk t x = false) : (if R t x = true then (if t = 0 then 1 else cf (qu R mk) (t - 1) x + pv (cf (qu R mk) (t - 1)) x) else 0) = cf (qm R mk t) t x := by
  cases t with
  | zero =>
    have e : x = 0 := by omega
    subst e
    have e1 : cf (qm R mk 0) 0 0 = if (qm R mk 0 0 0 && (0 == 0)) = true then 1 else 0 := rfl
    rw [e1, qm_ge (Nat.le_refl 0), hk]
    cases R 0 0 <;> simp
  | succ t =>
    rw [if_neg (show ¬ t + 1 = 0 from by omega), Nat.add_sub_cancel, cf, qm_ge (Nat.le_refl _), hk, qm_qu, pv_congr (fun b _ => qm_qu R mk t b)]
    simp
