/-! marks that rows meet -/
def sf (P mk : Nat → Nat → Bool) : Nat → Nat → Nat
  | 0, a => if mk 0 a = true then cf P 0 a else 0
  | t + 1, a => if P (t + 1) a = true then sf P mk t a + pv (sf P mk t) a + (if mk (t + 1) a = true then cf P (t + 1) a else 0) else 0
def tf (P mk : Nat → Nat → Bool) : Nat → Nat → Nat → Nat
  | 0, a, m => if m = (if mk 0 a = true then 1 else 0) then cf P 0 a else 0
  | t + 1, a, m => if P (t + 1) a = true then (if mk (t + 1) a = true then (if m = 0 then 0 else tf P mk t a (m - 1) + pv (fun b => tf P mk t b (m - 1)) a) else tf P mk t a m + pv (fun b => tf P mk t b m) a) else 0
theorem pv_zero {u : Nat → Nat} {a : Nat} (h : ∀ b, b < a → u b = 0) : pv u a = 0 := by
  unfold pv
  split
  · rfl
  · exact h _ (by omega)
theorem sf_gt (P mk : Nat → Nat → Bool) : ∀ {t a : Nat}, t < a → sf P mk t a = 0
  | 0, a, h => by rw [sf, cf_gt P h]; split <;> rfl
  | t + 1, a, h => by
    rw [sf, cf_gt P h, sf_gt P mk (by omega : t < a)]
    have : pv (sf P mk t) a = 0 := by
      unfold pv
      split
      · rfl
      · exact sf_gt P mk (by omega)
    rw [this]
    split
    · split <;> rfl
    · rfl
theorem sf_no {P mk : Nat → Nat → Bool} {t a : Nat} (h : P t a = false) : sf P mk t a = 0 := by
  cases t with
  | zero => rw [sf, cf_no h]; split <;> rfl
  | succ t => rw [sf, h]; rfl
theorem tf_gt (P mk : Nat → Nat → Bool) : ∀ {t a : Nat}, t < a → ∀ m, tf P mk t a m = 0
  | 0, a, h, m => by rw [tf, cf_gt P h, ite_self]
  | t + 1, a, h, m => by
    have h1 : ∀ m, tf P mk t a m = 0 := tf_gt P mk (by omega)
    have h2 : ∀ m, pv (fun b => tf P mk t b m) a = 0 := fun m => by
      unfold pv
      split
      · rfl
      · exact tf_gt P mk (by omega) m
    rw [tf, h1, h1, h2, h2]
    split
    · split
      · split <;> rfl
      · rfl
    · rfl
theorem tf_no {P mk : Nat → Nat → Bool} {t a : Nat} (h : P t a = false) (m : Nat) : tf P mk t a m = 0 := by
  cases t with
  | zero => rw [tf, cf_no h, ite_self]
  | succ t => rw [tf, h]; rfl
theorem tf_big (P mk : Nat → Nat → Bool) : ∀ {t m : Nat}, t + 1 < m → ∀ a, tf P mk t a m = 0
  | 0, m, h, a => by
    rw [tf, if_neg (by cases mk 0 a <;> simp <;> omega)]
  | t + 1, m, h, a => by
    rw [tf, tf_big P mk (by omega : t + 1 < m) a, tf_big P mk (by omega : t + 1 < m - 1) a, pv_zero (fun b _ => tf_big P mk (by omega : t + 1 < m) b), pv_zero (fun b _ => tf_big P mk (by omega : t + 1 < m - 1) b)]
    split
    · split
      · split <;> rfl
      · rfl
    · rfl
theorem sf_congr {P Q mk mk' : Nat → Nat → Bool} : ∀ {t a : Nat}, (∀ s b, s ≤ t → b ≤ s → P s b = Q s b ∧ mk s b = mk' s b) → sf P mk t a = sf Q mk' t a
  | 0, a, h => by
    cases a with
    | zero => rw [sf, sf, (h 0 0 (Nat.le_refl _) (Nat.le_refl _)).2, cf_congr (fun s b h1 h2 _ => (h s b h1 h2).1)]
    | succ a => rw [sf_gt P mk (Nat.succ_pos a), sf_gt Q mk' (Nat.succ_pos a)]
  | t + 1, a, h => by
    by_cases hz : t + 1 < a
    · rw [sf_gt P mk hz, sf_gt Q mk' hz]
    · rw [sf, sf, (h (t + 1) a (Nat.le_refl _) (by omega)).1, (h (t + 1) a (Nat.le_refl _) (by omega)).2, cf_congr (t := t + 1) (fun s b h1 h2 _ => (h s b h1 h2).1), sf_congr (fun s b h1 h2 => h s b (by omega) h2), pv_congr (fun b hb => sf_congr (fun s c h1 h2 => h s c (by omega) h2))]
theorem tf_congr {P Q mk mk' : Nat → Nat → Bool} : ∀ {t a m : Nat}, (∀ s b, s ≤ t → b ≤ s → P s b = Q s b ∧ mk s b = mk' s b) → tf P mk t a m = tf Q mk' t a m
  | 0, a, m, h => by
    cases a with
    | zero => rw [tf, tf, (h 0 0 (Nat.le_refl _) (Nat.le_refl _)).2, cf_congr (fun s b h1 h2 _ => (h s b h1 h2).1)]
    | succ a => rw [tf_gt P mk (Nat.succ_pos a), tf_gt Q mk' (Nat.succ_pos a)]
  | t + 1, a, m, h => by
    by_cases hz : t + 1 < a
    · rw [tf_gt P mk hz, tf_gt Q mk' hz]
    · rw [tf, tf, (h (t + 1) a (Nat.le_refl _) (by omega)).1, (h (t + 1) a (Nat.le_refl _) (by omega)).2, tf_congr (m := m) (fun s b h1 h2 => h s b (by omega) h2), tf_congr (m := m - 1) (fun s b h1 h2 => h s b (by omega) h2), pv_congr (a := a) (fun b hb => tf_congr (m := m) (fun s c h1 h2 => h s c (by omega) h2)), pv_congr (a := a) (fun b hb => tf_congr (m := m - 1) (fun s c h1 h2 => h s c (by omega) h2))]
theorem pv_sm (f : Nat → Nat → Nat) (a n : Nat) : sm (fun m => pv (fun b => f b m) a) n = pv (fun b => sm (fun m => f b m) n) a := by
  unfold pv
  split
  · exact sm_zero (fun _ _ => rfl)
  · rfl
theorem sm_shift (f : Nat → Nat) : ∀ n : Nat, sm (fun m => if m = 0 then 0 else f (m - 1)) (n + 1) = sm f n
  | 0 => rfl
  | n + 1 => by
    rw [sm, sm_shift f n, sm]
    rfl
/-- all numbers of marks together -/
theorem tf_sum (P mk : Nat → Nat → Bool) : ∀ (t a : Nat), sm (fun m => tf P mk t a m) (t + 2) = cf P t a
  | 0, a => by
    have : sm (fun m => tf P mk 0 a m) 2 = tf P mk 0 a 0 + tf P mk 0 a 1 := by simp only [sm, Nat.zero_add]
    rw [show 0 + 2 = 2 from rfl, this, tf, tf]
    cases mk 0 a <;> simp
  | t + 1, a => by
    cases hP : P (t + 1) a with
    | false => rw [cf_no hP]; exact sm_zero (fun m _ => tf_no hP m)
    | true =>
      have ih := tf_sum P mk t
      have e0 : cf P (t + 1) a = cf P t a + pv (cf P t) a := by rw [cf, hP]; rfl
      rw [e0]
      cases hm : mk (t + 1) a with
      | true =>
        have e1 : sm (fun m => tf P mk (t + 1) a m) (t + 1 + 2) = sm (fun m => if m = 0 then 0 else (fun q => tf P mk t a q + pv (fun b => tf P mk t b q) a) (m - 1)) (t + 2 + 1) := sm_congr (fun m _ => by rw [tf, hP, hm]; rfl)
        rw [e1.trans (sm_shift (fun q => tf P mk t a q + pv (fun b => tf P mk t b q) a) (t + 2)), sm_add, ih a, pv_sm]
        exact congrArg _ (pv_congr (fun b _ => ih b))
      | false =>
        have e1 : sm (fun m => tf P mk (t + 1) a m) (t + 1 + 2) = sm (fun q => tf P mk t a q + pv (fun b => tf P mk t b q) a) (t + 2 + 1) := sm_congr (fun m _ => by rw [tf, hP, hm]; rfl)
        rw [e1, sm_add, pv_sm]
        have e2 : ∀ b, sm (fun m => tf P mk t b m) (t + 2 + 1) = cf P t b := fun b => by rw [sm, ih b, tf_big P mk (by omega : t + 1 < t + 2) b, Nat.add_zero]
        rw [e2 a]
        exact congrArg _ (pv_congr (fun b _ => e2 b))
theorem sm_shiftM (f : Nat → Nat) : ∀ n : Nat, sm (fun m => m * (if m = 0 then 0 else f (m - 1))) (n + 1) = sm (fun m => m * f m) n + sm f n
  | 0 => rfl
  | n + 1 => by
    rw [sm, sm_shiftM f n, sm, sm]
    rw [if_neg (Nat.succ_ne_zero n), Nat.add_sub_cancel, Nat.add_mul]
    omega
theorem pv_mul (u : Nat → Nat) (c a : Nat) : c * pv u a = pv (fun b => c * u b) a := by
  unfold pv
  split
  · exact Nat.mul_zero c
  · rfl
/-- all marks met, counted by their numbers -/
theorem tf_marks (P mk : Nat → Nat → Bool) : ∀ (t a : Nat), sm (fun m => m * tf P mk t a m) (t + 2) = sf P mk t a
  | 0, a => by
    have : sm (fun m => m * tf P mk 0 a m) 2 = tf P mk 0 a 1 := by simp only [sm, Nat.zero_add, Nat.zero_mul, Nat.one_mul]
    rw [show 0 + 2 = 2 from rfl, this, tf, sf]
    cases mk 0 a <;> simp
  | t + 1, a => by
    cases hP : P (t + 1) a with
    | false => rw [sf_no hP]; exact sm_zero (fun m _ => by rw [tf_no hP m, Nat.mul_zero])
    | true =>
      have ih := tf_marks P mk t
      have e0 : sf P mk (t + 1) a = sf P mk t a + pv (sf P mk t) a + (if mk (t + 1) a = true then cf P (t + 1) a else 0) := by rw [sf, hP]; rfl
      have e9 : cf P (t + 1) a = cf P t a + pv (cf P t) a := by rw [cf, hP]; rfl
      have e2 : ∀ b, sm (fun m => m * tf P mk t b m) (t + 2 + 1) = sf P mk t b := fun b => by rw [sm, ih b, tf_big P mk (by omega : t + 1 < t + 2) b, Nat.mul_zero, Nat.add_zero]
      have e3 : ∀ n, sm (fun q => q * (tf P mk t a q + pv (fun b => tf P mk t b q) a)) n = sm (fun q => q * tf P mk t a q) n + pv (fun b => sm (fun q => q * tf P mk t b q) n) a := fun n => by
        rw [← pv_sm (fun b q => q * tf P mk t b q), ← sm_add]
        exact sm_congr (fun q _ => by show q * (_ + _) = _; rw [Nat.mul_add, pv_mul])
      rw [e0]
      cases hm : mk (t + 1) a with
      | true =>
        have e1 : sm (fun m => m * tf P mk (t + 1) a m) (t + 1 + 2) = sm (fun m => m * (if m = 0 then 0 else (fun q => tf P mk t a q + pv (fun b => tf P mk t b q) a) (m - 1))) (t + 2 + 1) := sm_congr (fun m _ => by show m * _ = m * _; rw [tf, hP, hm]; rfl)
        rw [e1.trans (sm_shiftM (fun q => tf P mk t a q + pv (fun b => tf P mk t b q) a) (t + 2)), e3 (t + 2), ih a, pv_congr (a := a) (fun b _ => ih b), sm_add, tf_sum P mk t a, pv_sm, pv_congr (a := a) (fun b _ => tf_sum P mk t b), if_pos rfl, e9]
      | false =>
        have e1 : sm (fun m => m * tf P mk (t + 1) a m) (t + 1 + 2) = sm (fun q => q * (tf P mk t a q + pv (fun b => tf P mk t b q) a)) (t + 2 + 1) := sm_congr (fun m _ => by show m * _ = m * _; rw [tf, hP, hm]; rfl)
        rw [e1, e3 (t + 2 + 1), e2 a, pv_congr (a := a) (fun b _ => e2 b), if_neg (by decide), Nat.add_zero]
/-- marks met, cell by cell -/
theorem sf_step (P mk : Nat → Nat → Bool) (e k t : Nat) : sm (fun a => sf P mk (t + 1) a * bw P e k (t + 1) a) (t + 2) = sm (fun a => sf P mk t a * bw P e (k + 1) t a) (t + 1) + sm (fun a => if mk (t + 1) a = true then cf P (t + 1) a * bw P e k (t + 1) a else 0) (t + 2) := by
  have h := sm_step (sf P mk t) (fun a => if P (t + 1) a = true then bw P e k (t + 1) a else 0) (t + 1)
  rw [sf_gt P mk (Nat.lt_succ_self t), Nat.zero_mul, Nat.add_zero] at h
  have e1 : sm (fun a => sf P mk (t + 1) a * bw P e k (t + 1) a) (t + 2) = sm (fun a => (sf P mk t a + pv (sf P mk t) a) * (if P (t + 1) a = true then bw P e k (t + 1) a else 0) + (if mk (t + 1) a = true then cf P (t + 1) a * bw P e k (t + 1) a else 0)) (t + 1 + 1) := sm_congr (fun a _ => by
    cases hP : P (t + 1) a with
    | false => rw [sf_no hP, cf_no hP, Nat.zero_mul, if_neg (by decide), Nat.mul_zero]; split <;> rfl
    | true =>
      have e0 : sf P mk (t + 1) a = sf P mk t a + pv (sf P mk t) a + (if mk (t + 1) a = true then cf P (t + 1) a else 0) := by rw [sf, hP]; rfl
      rw [e0, if_pos rfl, Nat.add_mul]
      congr 1
      split
      · rfl
      · exact Nat.zero_mul _)
  rw [e1, sm_add, h]
  exact congrArg (· + _) (sm_congr (fun a _ => rfl))
theorem sf_cells (P mk : Nat → Nat → Bool) (e n : Nat) : ∀ t, t ≤ n → sm (fun a => sf P mk t a * bw P e (n - t) t a) (t + 1) = sm (fun s => sm (fun a => if mk s a = true then cf P s a * bw P e (n - s) s a else 0) (s + 1)) (t + 1)
  | 0, _ => by
    simp only [sm, Nat.zero_add, sf]
    split
    · rfl
    · exact Nat.zero_mul _
  | t + 1, h => by
    have h1 : n - t = (n - (t + 1)) + 1 := by omega
    rw [sf_step, ← h1, sf_cells P mk e n t (by omega)]
    rfl
theorem sf_all (P mk : Nat → Nat → Bool) (e n : Nat) : sf P mk n e = sm (fun s => sm (fun a => if mk s a = true then cf P s a * bw P e (n - s) s a else 0) (s + 1)) (n + 1) := by
  rw [← sf_cells P mk e n n (Nat.le_refl _), Nat.sub_self]
  by_cases h : e < n + 1
  · rw [sm_one (e := e) h (fun a _ hne => by show sf P mk n a * (if a = e then 1 else 0) = 0; rw [if_neg hne, Nat.mul_zero])]
    show _ = sf P mk n e * (if e = e then 1 else 0)
    rw [if_pos rfl, Nat.mul_one]
  · rw [sf_gt P mk (by omega : n < e)]
    exact (sm_zero (fun a ha => by show sf P mk n a * (if a = e then 1 else 0) = 0; rw [if_neg (by omega), Nat.mul_zero])).symm
