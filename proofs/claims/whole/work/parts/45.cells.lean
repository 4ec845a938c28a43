/-! the cells of rows by heaps -/
def PH (A B : Nat → Nat) : Nat → Nat → Nat → Bool
  | 0, t, a => decide (t = 0 ∧ a = 0)
  | j + 1, t, a => if t ≤ sm (fun i => A i + B i) j then PH A B j t a else decide (sm A j ≤ a ∧ a ≤ sm A j + A j ∧ a + sm (fun i => A i + B i) j ≤ t + sm A j ∧ t + sm A j ≤ a + sm (fun i => A i + B i) j + B j)
def ah (k t a : Nat) : Bool := decide (k * t < a * (k + 1))
def us (n t a : Nat) : Bool := decide (t < n ∧ 2 * a ≤ n ∧ 2 * t ≤ n + 2 * a)
/-! what the cells' small functions answer -/
def AB (k t : Nat) : Int32 := bb (Int32.ofNat (k * t / (k + 1) + 1)) 24
def LB (t : Nat) : Int32 := if t % 2 = 0 then bb (Int32.ofNat (t / 2)) (Int32.ofNat (t / 2)) else 0
theorem m_le {k t a b : Nat} (hk : k ≤ a) (ht : t ≤ b) : k * t ≤ a * b := Nat.mul_le_mul hk ht
theorem f_least (M : am_M) {k t : Nat} (hk : k ≤ 9) (ht : t ≤ 25) : f_X0_leastAhead M (Int32.ofNat k) (Int32.ofNat t) = some (Int32.ofNat (k * t / (k + 1) + 1)) := by
  have h1 := m_le hk ht
  unfold f_X0_leastAhead
  rw [if_pos (by rw [show (0 : Int32) = Int32.ofNat 0 from rfl, i_le (by omega) (by omega)]; omega), i_s, if_pos (by rw [show (0 : Int32) = Int32.ofNat 0 from rfl, i_eq (by omega) (by omega)]; omega), i_mul, i_div (by omega) (by omega), i_s]
theorem f_aheadB (M : am_M) {k t : Nat} (hk : k ≤ 9) (ht : t ≤ 25) : f_X0_aheadBits M (Int32.ofNat k) (Int32.ofNat t) = some (AB k t) := by
  unfold f_X0_aheadBits
  rw [f_least M hk ht]
  show (f_X0_bits M _ _).bind _ = _
  rw [f_bits]
  rfl
theorem i_mod2 {t : Nat} (ht : t < 1000000) : Int32.ofNat t - Int32.ofNat t / 2 * 2 = Int32.ofNat (t % 2) := by
  rw [show (2 : Int32) = Int32.ofNat 2 from rfl, i_div (by omega) (by omega), i_mul, i_sub (by omega)]
  congr 1
  omega
theorem i_half {t : Nat} (ht : t < 1000000) : Int32.ofNat t / 2 = Int32.ofNat (t / 2) := by
  rw [show (2 : Int32) = Int32.ofNat 2 from rfl, i_div (by omega) (by omega)]
theorem f_levelB (M : am_M) {t : Nat} (ht : t ≤ 25) : f_X0_levelBits M (Int32.ofNat t) = some (LB t) := by
  unfold f_X0_levelBits LB
  rw [i_mod2 (by omega), i_half (by omega)]
  by_cases h : t % 2 = 0
  · rw [if_pos (by rw [h]; rfl), if_pos h, f_bits]
    rfl
  · rw [if_neg (by rw [show (0 : Int32) = Int32.ofNat 0 from rfl, i_eq (by omega) (by omega)]; exact h), if_neg h]
theorem t24 : (24 : Int32).toInt = 24 := by decide
theorem t0 : (0 : Int32).toInt = 0 := by decide
theorem t1 : (1 : Int32).toInt = 1 := by decide
theorem bt_AB {k t a : Nat} (hk : k ≤ 9) (ht : t ≤ 25) (ha : a ≤ 24) : bt (AB k t) a = ah k t a := by
  have h1 := m_le hk ht
  have h2 : k * t / (k + 1) ≤ k * t := Nat.div_le_self _ _
  unfold AB ah
  rw [bt_bb _ _ ha, i_ti (by omega), t24, decide_eq_decide]
  have h3 : k * t / (k + 1) < a ↔ k * t < a * (k + 1) := Nat.div_lt_iff_lt_mul (by omega)
  rw [← h3]
  omega
theorem bt_LB {t a : Nat} (ht : t ≤ 25) (ha : a ≤ 24) : bt (LB t) a = decide (2 * a = t) := by
  unfold LB
  by_cases h : t % 2 = 0
  · rw [if_pos h, bt_bb _ _ ha, i_ti (by omega), decide_eq_decide]
    omega
  · rw [if_neg h, bt_0]
    symm
    rw [decide_eq_false_iff_not]
    omega
theorem bt_NB {s a : Nat} (hs : s ≤ 25) (ha : a ≤ 24) : bt (bb (Int32.ofNat (s + 1) / 2) 24) a = decide (s ≤ 2 * a) := by
  rw [bt_bb _ _ ha, i_half (by omega), i_ti (by omega), t24, decide_eq_decide]
  omega
theorem bt_FB {e x a : Nat} (he : e ≤ 24) (hx : x ≤ 1000) (ha : a ≤ 24) : bt (bb 0 (Int32.ofNat e - Int32.ofNat x)) a = decide (a + x ≤ e) := by
  rw [bt_bb _ _ ha, i_tsub (by rw [i_ti (by omega), i_ti (by omega)]; omega) (by rw [i_ti (by omega), i_ti (by omega)]; omega), i_ti (by omega), i_ti (by omega), t0, decide_eq_decide]
  omega
theorem bt_SB {n a : Nat} (hn : n ≤ 24) (ha : a ≤ 24) : bt (bb (Int32.ofNat n / 2 + 1) 24) a = decide (n < 2 * a) := by
  rw [bt_bb _ _ ha, i_half (by omega), i_s, i_ti (by omega), t24, decide_eq_decide]
  omega
theorem bt_UB {n s a : Nat} (hn : n ≤ 24) (hs : s ≤ 24) (ha : a ≤ 24) : bt (bb (Int32.ofNat s - Int32.ofNat n / 2) (Int32.ofNat n / 2)) a = decide (2 * a ≤ n ∧ 2 * s ≤ n + 2 * a) := by
  rw [bt_bb _ _ ha, i_half (by omega), i_tsub (by rw [i_ti (by omega), i_ti (by omega)]; omega) (by rw [i_ti (by omega), i_ti (by omega)]; omega), i_ti (by omega), i_ti (by omega), decide_eq_decide]
  omega
theorem fdv_tab : ∀ k : Nat, k < 64 → (am_fdv (Int32.ofNat k - 1) 2).toInt = ((k : Int) - 1) / 2 := by decide +kernel
theorem bt_AV {g : Int32} {s a : Nat} (h1 : -1 ≤ g.toInt) (h2 : g.toInt ≤ 24) (hs : s ≤ 24) (ha : a ≤ 24) : bt (bb 0 (am_fdv (g + Int32.ofNat s) 2)) a = decide ((2 * a : Int) - s ≤ g.toInt) := by
  have e1 : (g + Int32.ofNat s).toInt = g.toInt + s := by rw [i_tadd (by rw [i_ti (by omega)]; omega) (by rw [i_ti (by omega)]; omega), i_ti (by omega)]
  have e2 : g + Int32.ofNat s = Int32.ofNat (g.toInt + s + 1).toNat - 1 := by
    rw [← Int32.toInt_inj, e1, i_tsub (by rw [i_ti (by omega), t1]; omega) (by rw [i_ti (by omega), t1]; omega), i_ti (by omega), t1]
    omega
  rw [bt_bb _ _ ha, e2, fdv_tab _ (by omega), t0, decide_eq_decide]
  omega

theorem c_X0_keepAhead_3 {n k v : Nat} (hn : n ≤ 24) (hk : k ≤ 9) (hv : v ≤ 24) : ∀ (m t : Nat) (M : am_M), 1 ≤ m → 26 ≤ m + t → t < 1000000 → M.1 0 0 0 0 = Int32.ofNat n → wp (l_X0_keepAhead_3 (Int32.ofNat k) (Int32.ofNat v) m (Int32.ofNat t) M) (fun N => ∀ s, N.1 103 0 0 s = if t ≤ s ∧ s ≤ v ∧ s ≤ n then M.1 103 0 0 s &&& AB k s else M.1 103 0 0 s) := by
  intro m
  induction m with
  | zero => intro t M h; omega
  | succ m ih =>
    intro t M _ hm ht h0
    rw [l_X0_keepAhead_3, h0]
    refine wp_lt (by omega) (by omega) (fun h => wp_some (fun s => by rw [if_neg (by omega)])) (fun hto => ?_)
    refine wp_lt (by omega) (by omega) (fun h => wp_some (fun s => by rw [if_neg (by omega)])) (fun hle => ?_)
    refine wp_inb (by omega) (by omega) ?_
    refine wp_be (f_aheadB M hk (by omega)) ?_
    refine wp_inb (by omega) (by omega) ?_
    rw [i_cl (by omega)]
    refine wp_let (wp_let ?_)
    rw [i_s]
    refine wp_mono (ih (t + 1) _ (by omega) (by omega) (by omega) (by rw [si_k (by decide)]; exact h0)) (fun N hN s => ?_)
    rw [hN s, si_e]
    by_cases hs : s = t
    · subst hs
      rw [if_neg (by omega), if_pos rfl, if_pos (by omega)]
    · rw [if_neg hs]
      by_cases hc : t ≤ s ∧ s ≤ v ∧ s ≤ n
      · rw [if_pos hc, if_pos (by omega)]
      · rw [if_neg hc, if_neg (by omega)]
theorem c_X0_keepNotBehind_2 {n v : Nat} (hn : n ≤ 24) (hv : v ≤ 24) : ∀ (m t : Nat) (M : am_M), 1 ≤ m → 26 ≤ m + t → t < 1000000 → M.1 0 0 0 0 = Int32.ofNat n → wp (l_X0_keepNotBehind_2 (Int32.ofNat v) m (Int32.ofNat t) M) (fun N => ∀ s, N.1 103 0 0 s = if t ≤ s ∧ s ≤ v ∧ s ≤ n then M.1 103 0 0 s &&& bb (Int32.ofNat (s + 1) / 2) 24 else M.1 103 0 0 s) := by
  intro m
  induction m with
  | zero => intro t M h; omega
  | succ m ih =>
    intro t M _ hm ht h0
    rw [l_X0_keepNotBehind_2, h0]
    refine wp_lt (by omega) (by omega) (fun h => wp_some (fun s => by rw [if_neg (by omega)])) (fun hto => ?_)
    refine wp_lt (by omega) (by omega) (fun h => wp_some (fun s => by rw [if_neg (by omega)])) (fun hle => ?_)
    refine wp_inb (by omega) (by omega) ?_
    refine wp_be (f_bits _ _ _) ?_
    refine wp_inb (by omega) (by omega) ?_
    rw [i_cl (by omega)]
    refine wp_let (wp_let ?_)
    rw [i_s]
    refine wp_mono (ih (t + 1) _ (by omega) (by omega) (by omega) (by rw [si_k (by decide)]; exact h0)) (fun N hN s => ?_)
    rw [hN s, si_e]
    by_cases hs : s = t
    · subst hs
      rw [if_neg (by omega), if_pos rfl, if_pos (by omega)]
    · rw [if_neg hs]
      by_cases hc : t ≤ s ∧ s ≤ v ∧ s ≤ n
      · rw [if_pos hc, if_pos (by omega)]
      · rw [if_neg hc, if_neg (by omega)]
theorem c_X0_closeLevel_2 {n v : Nat} (hn : n ≤ 24) (hv : v ≤ 24) : ∀ (m t : Nat) (M : am_M), 1 ≤ m → 26 ≤ m + t → t < 1000000 → M.1 0 0 0 0 = Int32.ofNat n → wp (l_X0_closeLevel_2 (Int32.ofNat v) m (Int32.ofNat t) M) (fun N => ∀ s, N.1 103 0 0 s = if t ≤ s ∧ s ≤ v ∧ s ≤ n then M.1 103 0 0 s &&& (LB s ^^^ (-1 : Int32)) else M.1 103 0 0 s) := by
  intro m
  induction m with
  | zero => intro t M h; omega
  | succ m ih =>
    intro t M _ hm ht h0
    rw [l_X0_closeLevel_2, h0]
    refine wp_lt (by omega) (by omega) (fun h => wp_some (fun s => by rw [if_neg (by omega)])) (fun hto => ?_)
    refine wp_lt (by omega) (by omega) (fun h => wp_some (fun s => by rw [if_neg (by omega)])) (fun hle => ?_)
    refine wp_inb (by omega) (by omega) ?_
    refine wp_be (f_levelB M (by omega)) ?_
    refine wp_inb (by omega) (by omega) ?_
    rw [i_cl (by omega)]
    refine wp_let (wp_let ?_)
    rw [i_s]
    refine wp_mono (ih (t + 1) _ (by omega) (by omega) (by omega) (by rw [si_k (by decide)]; exact h0)) (fun N hN s => ?_)
    rw [hN s, si_e]
    by_cases hs : s = t
    · subst hs
      rw [if_neg (by omega), if_pos rfl, if_pos (by omega)]
    · rw [if_neg hs]
      by_cases hc : t ≤ s ∧ s ≤ v ∧ s ≤ n
      · rw [if_pos hc, if_pos (by omega)]
      · rw [if_neg hc, if_neg (by omega)]
theorem c_X0_closeAhead_2 {n k : Nat} (hn : n ≤ 24) (hk : k ≤ 9) : ∀ (m t : Nat) (M : am_M), 1 ≤ m → 26 ≤ m + t → t < 1000000 → M.1 0 0 0 0 = Int32.ofNat n → wp (l_X0_closeAhead_2 (Int32.ofNat k) m (Int32.ofNat t) M) (fun N => ∀ s, N.1 103 0 0 s = if t ≤ s ∧ s ≤ n then M.1 103 0 0 s &&& (AB k s ^^^ (-1 : Int32)) else M.1 103 0 0 s) := by
  intro m
  induction m with
  | zero => intro t M h; omega
  | succ m ih =>
    intro t M _ hm ht h0
    rw [l_X0_closeAhead_2, h0]
    refine wp_lt (by omega) (by omega) (fun h => wp_some (fun s => by rw [if_neg (by omega)])) (fun hle => ?_)
    refine wp_inb (by omega) (by omega) ?_
    refine wp_be (f_aheadB M hk (by omega)) ?_
    refine wp_inb (by omega) (by omega) ?_
    rw [i_cl (by omega)]
    refine wp_let (wp_let ?_)
    rw [i_s]
    refine wp_mono (ih (t + 1) _ (by omega) (by omega) (by omega) (by rw [si_k (by decide)]; exact h0)) (fun N hN s => ?_)
    rw [hN s, si_e]
    by_cases hs : s = t
    · subst hs
      rw [if_neg (by omega), if_pos rfl, if_pos (by omega)]
    · rw [if_neg hs]
      by_cases hc : t ≤ s ∧ s ≤ n
      · rw [if_pos hc, if_pos (by omega)]
      · rw [if_neg hc, if_neg (by omega)]
theorem c_X0_keepAheadFromBehind_2 {n k e : Nat} (hn : n ≤ 24) (hk : k ≤ 9) : ∀ (m t : Nat) (M : am_M), 1 ≤ m → 26 ≤ m + t → t < 1000000 → M.1 0 0 0 0 = Int32.ofNat n → M.1 0 0 0 1 = Int32.ofNat e → wp (l_X0_keepAheadFromBehind_2 (Int32.ofNat k) m (Int32.ofNat t) M) (fun N => ∀ s, N.1 103 0 0 s = if t ≤ s ∧ s < n then M.1 103 0 0 s &&& bb 0 (Int32.ofNat e - Int32.ofNat (k * (n - s) / (k + 1) + 1)) else M.1 103 0 0 s) := by
  intro m
  induction m with
  | zero => intro t M h; omega
  | succ m ih =>
    intro t M _ hm ht h0 h1
    rw [l_X0_keepAheadFromBehind_2, h0]
    refine wp_le (by omega) (by omega) (fun h => wp_some (fun s => by rw [if_neg (by omega)])) (fun hle => ?_)
    refine wp_inb (by omega) (by omega) ?_
    rw [i_sub (x := n) (y := t) (by omega), h1]
    refine wp_be (f_least M hk (by omega)) ?_
    refine wp_be (f_bits _ _ _) ?_
    refine wp_inb (by omega) (by omega) ?_
    rw [i_cl (by omega)]
    refine wp_let (wp_let ?_)
    rw [i_s]
    refine wp_mono (ih (t + 1) _ (by omega) (by omega) (by omega) (by rw [si_k (by decide)]; exact h0) (by rw [si_k (by decide)]; exact h1)) (fun N hN s => ?_)
    rw [hN s, si_e]
    by_cases hs : s = t
    · subst hs
      rw [if_neg (by omega), if_pos rfl, if_pos (by omega)]
    · rw [if_neg hs]
      by_cases hc : t ≤ s ∧ s < n
      · rw [if_pos hc, if_pos (by omega)]
      · rw [if_neg hc, if_neg (by omega)]
theorem c_X0_keepAheadUntilSure_2 {n k : Nat} (hn : n ≤ 24) (hk : k ≤ 9) : ∀ (m t : Nat) (M : am_M), 1 ≤ m → 26 ≤ m + t → t < 1000000 → M.1 0 0 0 0 = Int32.ofNat n → wp (l_X0_keepAheadUntilSure_2 (Int32.ofNat k) m (Int32.ofNat t) M) (fun N => ∀ s, N.1 103 0 0 s = if t ≤ s ∧ s ≤ n then M.1 103 0 0 s &&& (AB k s ||| bb (Int32.ofNat n / 2 + 1) 24) else M.1 103 0 0 s) := by
  intro m
  induction m with
  | zero => intro t M h; omega
  | succ m ih =>
    intro t M _ hm ht h0
    rw [l_X0_keepAheadUntilSure_2, h0]
    refine wp_lt (by omega) (by omega) (fun h => wp_some (fun s => by rw [if_neg (by omega)])) (fun hle => ?_)
    refine wp_inb (by omega) (by omega) ?_
    refine wp_be (f_aheadB M hk (by omega)) ?_
    refine wp_be (f_bits _ _ _) ?_
    refine wp_inb (by omega) (by omega) ?_
    rw [i_cl (by omega)]
    refine wp_let (wp_let ?_)
    rw [i_s]
    refine wp_mono (ih (t + 1) _ (by omega) (by omega) (by omega) (by rw [si_k (by decide)]; exact h0)) (fun N hN s => ?_)
    rw [hN s, si_e]
    by_cases hs : s = t
    · subst hs
      rw [if_neg (by omega), if_pos rfl, if_pos (by omega)]
    · rw [if_neg hs]
      by_cases hc : t ≤ s ∧ s ≤ n
      · rw [if_pos hc, if_pos (by omega)]
      · rw [if_neg hc, if_neg (by omega)]
theorem c_X0_keepNotAbove_2 {n : Nat} (hn : n ≤ 24) {g : Int32} : ∀ (m t : Nat) (M : am_M), 1 ≤ m → 26 ≤ m + t → t < 1000000 → M.1 0 0 0 0 = Int32.ofNat n → wp (l_X0_keepNotAbove_2 g m (Int32.ofNat t) M) (fun N => ∀ s, N.1 103 0 0 s = if t ≤ s ∧ s ≤ n then M.1 103 0 0 s &&& bb 0 (am_fdv (g + Int32.ofNat s) 2) else M.1 103 0 0 s) := by
  intro m
  induction m with
  | zero => intro t M h; omega
  | succ m ih =>
    intro t M _ hm ht h0
    rw [l_X0_keepNotAbove_2, h0]
    refine wp_lt (by omega) (by omega) (fun h => wp_some (fun s => by rw [if_neg (by omega)])) (fun hle => ?_)
    refine wp_inb (by omega) (by omega) ?_
    refine wp_be (f_bits _ _ _) ?_
    refine wp_inb (by omega) (by omega) ?_
    rw [i_cl (by omega)]
    refine wp_let (wp_let ?_)
    rw [i_s]
    refine wp_mono (ih (t + 1) _ (by omega) (by omega) (by omega) (by rw [si_k (by decide)]; exact h0)) (fun N hN s => ?_)
    rw [hN s, si_e]
    by_cases hs : s = t
    · subst hs
      rw [if_neg (by omega), if_pos rfl, if_pos (by omega)]
    · rw [if_neg hs]
      by_cases hc : t ≤ s ∧ s ≤ n
      · rw [if_pos hc, if_pos (by omega)]
      · rw [if_neg hc, if_neg (by omega)]
theorem c_X0_markAhead_2 {n : Nat} (hn : n ≤ 24) : ∀ (m t : Nat) (M : am_M), 1 ≤ m → 26 ≤ m + t → t < 1000000 → M.1 0 0 0 0 = Int32.ofNat n → wp (l_X0_markAhead_2  m (Int32.ofNat t) M) (fun N => ∀ s, N.1 104 0 0 s = if t ≤ s ∧ s ≤ n then AB 1 s else M.1 104 0 0 s) := by
  intro m
  induction m with
  | zero => intro t M h; omega
  | succ m ih =>
    intro t M _ hm ht h0
    rw [l_X0_markAhead_2, h0]
    refine wp_lt (by omega) (by omega) (fun h => wp_some (fun s => by rw [if_neg (by omega)])) (fun hle => ?_)
    refine wp_be (f_aheadB M (k := 1) (by omega) (by omega)) ?_
    refine wp_inb (by omega) (by omega) ?_
    rw [i_cl (by omega)]
    refine wp_let (wp_let ?_)
    rw [i_s]
    refine wp_mono (ih (t + 1) _ (by omega) (by omega) (by omega) (by rw [si_k (by decide)]; exact h0)) (fun N hN s => ?_)
    rw [hN s, si_e]
    by_cases hs : s = t
    · subst hs
      rw [if_neg (by omega), if_pos rfl, if_pos (by omega)]
    · rw [if_neg hs]
      by_cases hc : t ≤ s ∧ s ≤ n
      · rw [if_pos hc, if_pos (by omega)]
      · rw [if_neg hc, if_neg (by omega)]
theorem c_X0_markLevel_9 {n : Nat} (hn : n ≤ 24) : ∀ (m t : Nat) (M : am_M), 1 ≤ m → 26 ≤ m + t → t < 1000000 → M.1 0 0 0 0 = Int32.ofNat n → wp (l_X0_markLevel_9  m (Int32.ofNat t) M) (fun N => ∀ s, N.1 104 0 0 s = if t ≤ s ∧ s ≤ n then LB s else M.1 104 0 0 s) := by
  intro m
  induction m with
  | zero => intro t M h; omega
  | succ m ih =>
    intro t M _ hm ht h0
    rw [l_X0_markLevel_9, h0]
    refine wp_lt (by omega) (by omega) (fun h => wp_some (fun s => by rw [if_neg (by omega)])) (fun hle => ?_)
    refine wp_be (f_levelB M (by omega)) ?_
    refine wp_inb (by omega) (by omega) ?_
    rw [i_cl (by omega)]
    refine wp_let (wp_let ?_)
    rw [i_s]
    refine wp_mono (ih (t + 1) _ (by omega) (by omega) (by omega) (by rw [si_k (by decide)]; exact h0)) (fun N hN s => ?_)
    rw [hN s, si_e]
    by_cases hs : s = t
    · subst hs
      rw [if_neg (by omega), if_pos rfl, if_pos (by omega)]
    · rw [if_neg hs]
      by_cases hc : t ≤ s ∧ s ≤ n
      · rw [if_pos hc, if_pos (by omega)]
      · rw [if_neg hc, if_neg (by omega)]
theorem c_X0_markUnsure_2 {n : Nat} (hn : n ≤ 24) : ∀ (m t : Nat) (M : am_M), 1 ≤ m → 26 ≤ m + t → t < 1000000 → M.1 0 0 0 0 = Int32.ofNat n → wp (l_X0_markUnsure_2  m (Int32.ofNat t) M) (fun N => ∀ s, N.1 104 0 0 s = if t ≤ s ∧ s < n then bb (Int32.ofNat s - Int32.ofNat n / 2) (Int32.ofNat n / 2) else M.1 104 0 0 s) := by
  intro m
  induction m with
  | zero => intro t M h; omega
  | succ m ih =>
    intro t M _ hm ht h0
    rw [l_X0_markUnsure_2, h0]
    refine wp_le (by omega) (by omega) (fun h => wp_some (fun s => by rw [if_neg (by omega)])) (fun hle => ?_)
    refine wp_be (f_bits _ _ _) ?_
    refine wp_inb (by omega) (by omega) ?_
    rw [i_cl (by omega)]
    refine wp_let (wp_let ?_)
    rw [i_s]
    refine wp_mono (ih (t + 1) _ (by omega) (by omega) (by omega) (by rw [si_k (by decide)]; exact h0)) (fun N hN s => ?_)
    rw [hN s, si_e]
    by_cases hs : s = t
    · subst hs
      rw [if_neg (by omega), if_pos rfl, if_pos (by omega)]
    · rw [if_neg hs]
      by_cases hc : t ≤ s ∧ s < n
      · rw [if_pos hc, if_pos (by omega)]
      · rw [if_neg hc, if_neg (by omega)]
