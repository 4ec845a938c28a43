/-! rows as ways through cells: forward counts, backward counts, marks -/
def sm (f : Nat → Nat) : Nat → Nat
  | 0 => 0
  | n + 1 => sm f n + f n
theorem sm_congr {f g : Nat → Nat} : ∀ {n : Nat}, (∀ a, a < n → f a = g a) → sm f n = sm g n
  | 0, _ => rfl
  | n + 1, h => by rw [sm, sm, sm_congr (fun a ha => h a (Nat.lt_succ_of_lt ha)), h n (Nat.lt_succ_self n)]
theorem sm_zero {f : Nat → Nat} : ∀ {n : Nat}, (∀ a, a < n → f a = 0) → sm f n = 0
  | 0, _ => rfl
  | n + 1, h => by rw [sm, sm_zero (fun a ha => h a (Nat.lt_succ_of_lt ha)), h n (Nat.lt_succ_self n)]
theorem sm_add (f g : Nat → Nat) : ∀ n : Nat, sm (fun a => f a + g a) n = sm f n + sm g n
  | 0 => rfl
  | n + 1 => by rw [sm, sm, sm, sm_add f g n]; omega
theorem sm_mul (c : Nat) (f : Nat → Nat) : ∀ n : Nat, sm (fun a => c * f a) n = c * sm f n
  | 0 => rfl
  | n + 1 => by rw [sm, sm, sm_mul c f n, Nat.mul_add]
theorem sm_one {f : Nat → Nat} {e : Nat} : ∀ {n : Nat}, e < n → (∀ a, a < n → a ≠ e → f a = 0) → sm f n = f e
  | 0, h, _ => absurd h (Nat.not_lt_zero e)
  | n + 1, h, hz => by
    rw [sm]
    by_cases he : e = n
    · subst he
      rw [sm_zero (fun a ha => hz a (Nat.lt_succ_of_lt ha) (Nat.ne_of_lt ha)), Nat.zero_add]
    · rw [sm_one (Nat.lt_of_le_of_ne (Nat.le_of_lt_succ h) he) (fun a ha hne => hz a (Nat.lt_succ_of_lt ha) hne), hz n (Nat.lt_succ_self n) (fun z => he z.symm), Nat.add_zero]
theorem sm_ext {f : Nat → Nat} {n : Nat} : ∀ {m : Nat}, n ≤ m → (∀ a, n ≤ a → a < m → f a = 0) → sm f m = sm f n
  | 0, h, _ => by rw [Nat.le_zero.mp h]
  | m + 1, h, hz => by
    by_cases he : n = m + 1
    · rw [he]
    · rw [sm, sm_ext (n := n) (m := m) (by omega) (fun a h1 h2 => hz a h1 (by omega)), hz m (by omega) (by omega), Nat.add_zero]
theorem sm_le {f : Nat → Nat} {n m : Nat} (h : n ≤ m) : sm f n ≤ sm f m := by
  induction m with
  | zero => rw [Nat.le_zero.mp h]; exact Nat.le_refl _
  | succ m ih =>
    by_cases he : n = m + 1
    · rw [he]; exact Nat.le_refl _
    · exact Nat.le_trans (ih (by omega)) (by rw [sm]; omega)
theorem sm_comm (f : Nat → Nat → Nat) (n : Nat) : ∀ m : Nat, sm (fun a => sm (fun b => f a b) m) n = sm (fun b => sm (fun a => f a b) n) m
  | 0 => sm_zero (fun _ _ => rfl)
  | m + 1 => by
    have e : (fun a => sm (fun b => f a b) (m + 1)) = (fun a => sm (fun b => f a b) m + f a m) := rfl
    rw [e, sm_add, sm_comm f n m]
    rfl
/-- one step back: the value at a - 1 -/
def pv (u : Nat → Nat) (a : Nat) : Nat := if a = 0 then 0 else u (a - 1)
theorem pv_0 (u : Nat → Nat) : pv u 0 = 0 := rfl
theorem pv_s (u : Nat → Nat) (a : Nat) : pv u (a + 1) = u a := by unfold pv; rw [if_neg (Nat.succ_ne_zero a)]; rfl
theorem sm_step (u g : Nat → Nat) : ∀ m : Nat, sm (fun a => (u a + pv u a) * g a) (m + 1) = sm (fun a => u a * (g a + g (a + 1))) m + u m * g m
  | 0 => by simp only [sm, pv_0, Nat.add_zero, Nat.zero_add]
  | m + 1 => by
    rw [sm, sm_step u g m, pv_s]
    show _ = sm (fun a => u a * (g a + g (a + 1))) m + u m * (g m + g (m + 1)) + u (m + 1) * g (m + 1)
    rw [Nat.mul_add, Nat.add_mul]
    omega
def cf (P : Nat → Nat → Bool) : Nat → Nat → Nat
  | 0, a => if (P 0 a && a == 0) = true then 1 else 0
  | t + 1, a => if P (t + 1) a = true then cf P t a + pv (cf P t) a else 0
def bw (P : Nat → Nat → Bool) (e : Nat) : Nat → Nat → Nat → Nat
  | 0, _, a => if a = e then 1 else 0
  | k + 1, t, a => (if P (t + 1) a = true then bw P e k (t + 1) a else 0) + (if P (t + 1) (a + 1) = true then bw P e k (t + 1) (a + 1) else 0)
theorem cf_gt (P : Nat → Nat → Bool) : ∀ {t a : Nat}, t < a → cf P t a = 0
  | 0, a, h => by
    have : (P 0 a && a == 0) = false := by
      cases ha : a with
      | zero => omega
      | succ b => simp
    rw [cf, this]; rfl
  | t + 1, a, h => by
    rw [cf, cf_gt P (by omega : t < a)]
    have : pv (cf P t) a = 0 := by
      unfold pv
      split
      · rfl
      · exact cf_gt P (by omega)
    rw [this]
    split <;> rfl
theorem cf_no {P : Nat → Nat → Bool} {t a : Nat} (h : P t a = false) : cf P t a = 0 := by
  cases t with
  | zero => rw [cf, h]; rfl
  | succ t => rw [cf, h]; rfl
theorem pv_congr {u v : Nat → Nat} {a : Nat} (h : ∀ b, b < a → u b = v b) : pv u a = pv v a := by
  unfold pv
  split
  · rfl
  · exact h _ (by omega)
theorem cf_congr {P Q : Nat → Nat → Bool} : ∀ {t a : Nat}, (∀ s b, s ≤ t → b ≤ s → b ≤ a → P s b = Q s b) → cf P t a = cf Q t a
  | 0, a, h => by
    cases a with
    | zero => rw [cf, cf, h 0 0 (Nat.le_refl _) (Nat.le_refl _) (Nat.le_refl _)]
    | succ a => rw [cf_gt P (Nat.succ_pos a), cf_gt Q (Nat.succ_pos a)]
  | t + 1, a, h => by
    by_cases hz : t + 1 < a
    · rw [cf_gt P hz, cf_gt Q hz]
    · rw [cf, cf, h (t + 1) a (Nat.le_refl _) (by omega) (Nat.le_refl _), cf_congr (fun s b h1 h2 h3 => h s b (by omega) h2 h3), pv_congr (fun b hb => cf_congr (fun s c h1 h2 h3 => h s c (by omega) h2 (by omega)))]
theorem cf_le (P : Nat → Nat → Bool) : ∀ t a : Nat, cf P t a ≤ 2 ^ t
  | 0, a => by rw [cf]; split <;> decide
  | t + 1, a => by
    rw [cf, Nat.pow_succ]
    have h1 := cf_le P t a
    have h2 : pv (cf P t) a ≤ 2 ^ t := by
      unfold pv
      split
      · exact Nat.zero_le _
      · exact cf_le P t _
    split
    · omega
    · exact Nat.zero_le _
/-- forward and backward together -/
theorem fb_step (P : Nat → Nat → Bool) (e k t : Nat) : sm (fun a => cf P (t + 1) a * bw P e k (t + 1) a) (t + 2) = sm (fun a => cf P t a * bw P e (k + 1) t a) (t + 1) := by
  have h := sm_step (cf P t) (fun a => if P (t + 1) a = true then bw P e k (t + 1) a else 0) (t + 1)
  rw [cf_gt P (Nat.lt_succ_self t), Nat.zero_mul, Nat.add_zero] at h
  have e1 : sm (fun a => cf P (t + 1) a * bw P e k (t + 1) a) (t + 2) = sm (fun a => (cf P t a + pv (cf P t) a) * (if P (t + 1) a = true then bw P e k (t + 1) a else 0)) (t + 1 + 1) := sm_congr (fun a _ => by
    rw [cf]
    split
    · rfl
    · rw [Nat.zero_mul, Nat.mul_zero])
  rw [e1, h]
  exact sm_congr (fun a _ => rfl)
theorem fb_all (P : Nat → Nat → Bool) (e : Nat) : ∀ (k t : Nat), sm (fun a => cf P t a * bw P e k t a) (t + 1) = sm (fun a => cf P (t + k) a * bw P e 0 (t + k) a) (t + k + 1)
  | 0, t => rfl
  | k + 1, t => by
    rw [← fb_step P e k t, fb_all P e k (t + 1), show t + 1 + k = t + (k + 1) from by omega]
theorem fb_end (P : Nat → Nat → Bool) (e n : Nat) : sm (fun a => cf P n a * bw P e 0 n a) (n + 1) = cf P n e := by
  by_cases h : e < n + 1
  · rw [sm_one (e := e) h (fun a _ hne => by show cf P n a * (if a = e then 1 else 0) = 0; rw [if_neg hne, Nat.mul_zero])]
    show cf P n e * (if e = e then 1 else 0) = _
    rw [if_pos rfl, Nat.mul_one]
  · rw [cf_gt P (by omega : n < e)]
    exact sm_zero (fun a ha => by show cf P n a * (if a = e then 1 else 0) = 0; rw [if_neg (by omega), Nat.mul_zero])
theorem fb (P : Nat → Nat → Bool) (e : Nat) {t n : Nat} (h : t ≤ n) : sm (fun a => cf P t a * bw P e (n - t) t a) (t + 1) = cf P n e := by
  rw [fb_all P e (n - t) t, show t + (n - t) = n from by omega, fb_end]
theorem bw_congr {P Q : Nat → Nat → Bool} {e : Nat} : ∀ {k t a : Nat}, (∀ s b, t < s → s ≤ t + k → P s b = Q s b) → bw P e k t a = bw Q e k t a
  | 0, t, a, _ => rfl
  | k + 1, t, a, h => by
    rw [bw, bw, h (t + 1) a (by omega) (by omega), h (t + 1) (a + 1) (by omega) (by omega), bw_congr (fun s b h1 h2 => h s b (by omega) (by omega)), bw_congr (a := a + 1) (fun s b h1 h2 => h s b (by omega) (by omega))]
/-- all rows that go through the cell (t, a0) -/
theorem cf_through (P : Nat → Nat → Bool) (e : Nat) {t n a0 : Nat} (h : t ≤ n) (ha : a0 ≤ t) : cf (fun s b => P s b && (!(s == t) || b == a0)) n e = cf P t a0 * bw P e (n - t) t a0 := by
  rw [← fb (fun s b => P s b && (!(s == t) || b == a0)) e h, sm_one (e := a0) (by omega) (fun a _ hne => by
    rw [cf_no (by simp; exact fun _ => hne), Nat.zero_mul])]
  congr 1
  · cases t with
    | zero => rw [Nat.le_zero.mp ha, cf, cf]; simp
    | succ t =>
      rw [cf, cf]
      have e1 : (P (t + 1) a0 && (!(t + 1 == t + 1) || a0 == a0)) = P (t + 1) a0 := by simp
      have e2 : ∀ b, cf (fun s b => P s b && (!(s == t + 1) || b == a0)) t b = cf P t b := fun b => cf_congr (fun s c h1 h2 _ => by
        have : (s == t + 1) = false := by simp; omega
        show (P s c && (!(s == t + 1) || c == a0)) = P s c
        rw [this]; simp)
      rw [e1, e2, pv_congr (fun b _ => e2 b)]
  · exact bw_congr (fun s b h1 h2 => by
      have : (s == t) = false := by simp; omega
      show (P s b && (!(s == t) || b == a0)) = P s b
      rw [this]; simp)
/-- rows split by what they do at one moment -/
theorem cf_split {P Q R : Nat → Nat → Bool} {t : Nat} (h1 : ∀ s b, s ≠ t → Q s b = P s b) (h2 : ∀ s b, s ≠ t → R s b = P s b) (h3 : ∀ b, P t b = (Q t b || R t b)) (h4 : ∀ b, (Q t b && R t b) = false) : ∀ {n : Nat}, t ≤ n → ∀ a, cf P n a = cf Q n a + cf R n a := by
  have key : ∀ a, cf P t a = cf Q t a + cf R t a := by
    intro a
    have hb := h3 a
    have hc := h4 a
    cases t with
    | zero =>
      rw [cf, cf, cf, hb]
      cases hQ : Q 0 a <;> cases hR : R 0 a <;> rw [hQ, hR] at hc <;> simp at hc ⊢
    | succ t =>
      have e1 : ∀ b, cf Q t b = cf P t b := fun b => cf_congr (fun s c h _ _ => h1 s c (by omega))
      have e2 : ∀ b, cf R t b = cf P t b := fun b => cf_congr (fun s c h _ _ => h2 s c (by omega))
      rw [cf, cf, cf, hb, e1, e2, pv_congr (u := cf Q t) (fun b _ => e1 b), pv_congr (u := cf R t) (fun b _ => e2 b)]
      cases hQ : Q (t + 1) a <;> cases hR : R (t + 1) a <;> rw [hQ, hR] at hc <;> simp at hc ⊢
  intro n
  induction n with
  | zero => intro h a; rw [← Nat.le_zero.mp h]; exact key a
  | succ n ih =>
    intro h a
    by_cases he : t = n + 1
    · subst he; exact key a
    · rw [cf, cf, cf, h1 (n + 1) a (by omega), h2 (n + 1) a (by omega), ih (by omega) a]
      have : pv (cf P n) a = pv (cf Q n) a + pv (cf R n) a := by
        unfold pv
        split
        · rfl
        · exact ih (by omega) _
      rw [this]
      split <;> omega
