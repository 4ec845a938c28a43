/-! choosing; lost slips -/
def ch : Nat → Nat → Nat
  | _, 0 => 1
  | 0, _ + 1 => 0
  | n + 1, k + 1 => ch n k + ch n (k + 1)
theorem ch_0 (n : Nat) : ch n 0 = 1 := by cases n <;> rfl
theorem ch_ss (n k : Nat) : ch (n + 1) (k + 1) = ch n k + ch n (k + 1) := rfl
theorem ch_0s (k : Nat) : ch 0 (k + 1) = 0 := rfl
theorem ch_abs : ∀ n k : Nat, (k + 1) * ch (n + 1) (k + 1) = (n + 1) * ch n k
  | 0, 0 => rfl
  | 0, k + 1 => by
    show (k + 1 + 1) * (ch 0 (k + 1) + ch 0 (k + 1 + 1)) = (0 + 1) * ch 0 (k + 1)
    rw [ch_0s, ch_0s]
    omega
  | n + 1, 0 => by
    have ih := ch_abs n 0
    rw [ch_0] at ih
    rw [ch_ss, ch_0]
    omega
  | n + 1, k + 1 => by
    have i1 := ch_abs n (k + 1)
    have i2 := ch_abs n k
    rw [ch_ss (n + 1) (k + 1)]
    have e : ch (n + 1) (k + 1) = ch n k + ch n (k + 1) := rfl
    have e1 : (k + 1 + 1) * (ch (n + 1) (k + 1) + ch (n + 1) (k + 1 + 1)) = (k + 1) * ch (n + 1) (k + 1) + ch (n + 1) (k + 1) + (k + 1 + 1) * ch (n + 1) (k + 1 + 1) := by
      rw [Nat.mul_add, Nat.add_mul (k + 1) 1, Nat.one_mul]
    have e2 : (n + 1 + 1) * ch (n + 1) (k + 1) = (n + 1) * ch n k + (n + 1) * ch n (k + 1) + ch (n + 1) (k + 1) := by
      rw [Nat.add_mul (n + 1) 1, Nat.one_mul, ← Nat.mul_add, ← e]
    rw [e1, i1, i2, e2]
    omega
theorem ch_nx {n k : Nat} (h : k ≤ n) : (k + 1) * ch n (k + 1) = (n - k) * ch n k := by
  cases n with
  | zero =>
    have e : k = 0 := by omega
    subst e
    rfl
  | succ n =>
    rw [ch_abs]
    cases k with
    | zero => rw [ch_0, ch_0, Nat.sub_zero]
    | succ j =>
      have a := ch_abs n j
      have e : ch (n + 1) (j + 1) = ch n j + ch n (j + 1) := rfl
      have e1 : (n + 1) * ch (n + 1) (j + 1) = (n + 1) * ch n j + (n + 1) * ch n (j + 1) := by rw [e, Nat.mul_add]
      have e2 : (n + 1 - (j + 1)) * ch (n + 1) (j + 1) = (n + 1) * ch (n + 1) (j + 1) - (j + 1) * ch (n + 1) (j + 1) := Nat.sub_mul _ _ _
      omega
theorem ch_le : ∀ n k : Nat, ch n k ≤ 2 ^ n
  | n, 0 => by rw [ch_0]; exact Nat.one_le_two_pow
  | 0, k + 1 => by rw [ch_0s]; exact Nat.zero_le _
  | n + 1, k + 1 => by
    have h1 := ch_le n k
    have h2 := ch_le n (k + 1)
    rw [ch_ss, Nat.pow_succ]
    omega
theorem ch_b {n k : Nat} (h : n ≤ 24) : ch n k ≤ 16777216 := Nat.le_trans (ch_le n k) (Nat.le_trans (Nat.pow_le_pow_right (by omega) h) (by decide))
theorem ch_gt : ∀ {n k : Nat}, n < k → ch n k = 0
  | 0, k + 1, _ => rfl
  | n + 1, k + 1, h => by rw [ch_ss, ch_gt (by omega), ch_gt (by omega)]
theorem l_div {x y : Nat} (hx : x < 4611686018427387904) (hy : y < 4611686018427387904) : Int64.ofNat x / Int64.ofNat y = Int64.ofNat (x / y) := (Int64.ofNat_div (by omega) (by omega)).symm
theorem c_choose16 (M : am_M) {n k : Nat} (hk : k ≤ n) (hn : n ≤ 24) : ∀ (m i : Nat), i ≤ k → k + 1 ≤ m + i → wp (l_X4_choose_16 M (Int32.ofNat n) (Int32.ofNat k) m (Int64.ofNat (ch (n - k + i) i)) (Int32.ofNat (i + 1))) (fun y => y = Int64.ofNat (ch n k)) := by
  intro m
  induction m with
  | zero => intro i h1 h2; omega
  | succ m ih =>
    intro i hi hm
    rw [l_X4_choose_16]
    refine wp_lt (by omega) (by omega) (fun e => wp_some (by rw [show i = k from by omega, Nat.sub_add_cancel hk])) (fun e => ?_)
    have b1 := ch_b (n := n - k + i) (k := i) (by omega)
    have b2 := ch_abs (n - k + i) i
    have b3 : ch (n - k + i) i * (n - k + (i + 1)) / (i + 1) = ch (n - k + (i + 1)) (i + 1) := by
      rw [show n - k + (i + 1) = n - k + i + 1 from by omega, Nat.mul_comm (ch (n - k + i) i), ← b2, Nat.mul_div_cancel_left _ (by omega)]
    have b4 : ch (n - k + i) i * (n - k + (i + 1)) ≤ 16777216 * 24 := Nat.mul_le_mul b1 (by omega)
    rw [i_sub hk, i_add, l_of (by omega), l_of (by omega)]
    refine wp_pos (fun z => ?_) (wp_let (wp_let ?_))
    · rw [l_e0 (by omega)] at z
      omega
    · rw [l_mul, l_div (by omega) (by omega), b3, i_s]
      exact ih (i + 1) (by omega) (by omega)
theorem c_choose (M : am_M) {n k : Nat} (hn : n ≤ 24) (hk : k ≤ 1000) : f_X4_choose M (Int32.ofNat n) (Int32.ofNat k) = some (Int64.ofNat (ch n k)) := by
  unfold f_X4_choose
  refine wp_is (wp_neg (i_0l _ (by omega)) (wp_le (by omega) (by omega) (fun e => ?_) (fun e => wp_some ?_)))
  · have := c_choose16 M e hn 1000 0 (by omega) (by omega)
    rw [ch_0] at this
    exact wp_call this (fun y hy => wp_some hy)
  · rw [ch_gt e]
    rfl
theorem lost_loop (M N : am_M) {l : Nat} {g : Int32} (hl : l ≤ 20) : ∀ (d x : Nat), x + d = l + 1 → ∀ (m m' : Nat) (c : Int64), d + 1 ≤ m → d + 1 ≤ m' → ∃ r, l_X4_lost_42 M (Int32.ofNat l) g m c (Int32.ofNat x) = some r ∧ ∀ wy, (x ≤ l → wy = Int64.ofNat (ch l x)) → l_X5_lost_51 N (Int32.ofNat l) g m' wy c (Int32.ofNat x) = some r := by
  intro d
  induction d with
  | zero =>
    intro x hx m m' c hm hm'
    obtain ⟨m, rfl⟩ : ∃ k, m = k + 1 := ⟨m - 1, by omega⟩
    obtain ⟨m', rfl⟩ : ∃ k, m' = k + 1 := ⟨m' - 1, by omega⟩
    refine ⟨c, wp_is ?_, fun wy _ => wp_is ?_⟩
    · rw [l_X4_lost_42]
      exact wp_lt (by omega) (by omega) (fun _ => wp_some rfl) (fun e => absurd e (by omega))
    · rw [l_X5_lost_51]
      exact wp_lt (by omega) (by omega) (fun _ => wp_some rfl) (fun e => absurd e (by omega))
  | succ d ih =>
    intro x hx m m' c hm hm'
    obtain ⟨m, rfl⟩ : ∃ k, m = k + 1 := ⟨m - 1, by omega⟩
    obtain ⟨m', rfl⟩ : ∃ k, m' = k + 1 := ⟨m' - 1, by omega⟩
    have hxl : x ≤ l := by omega
    have b1 := ch_b (n := l) (k := x) (by omega)
    have b2 := ch_nx hxl
    have b3 : ch l x * (l - x) / (x + 1) = ch l (x + 1) := by rw [Nat.mul_comm, ← b2, Nat.mul_div_cancel_left _ (by omega)]
    have b4 : ch l x * (l - x) ≤ 16777216 * 20 := Nat.mul_le_mul b1 (by omega)
    have key : ∀ c', wp (((if g = 0 then (if ((g + ((2 : Int32) * Int32.ofNat x)) - Int32.ofNat l) ≤ 0 then some c else (f_X4_choose M (Int32.ofNat l) (Int32.ofNat x)).bind (fun r13 => am_let (c + r13) (fun v14 => some v14))) else (if 0 < ((g + ((2 : Int32) * Int32.ofNat x)) - Int32.ofNat l) then some c else (f_X4_choose M (Int32.ofNat l) (Int32.ofNat x)).bind (fun r9 => am_let (c + r9) (fun v10 => some v10)))) : Option (Int64))) (fun z => z = c') → wp (((if g = 0 then (if ((g + ((2 : Int32) * Int32.ofNat x)) - Int32.ofNat l) ≤ 0 then some (0 : Int64) else some (Int64.ofNat (ch l x))) else (if 0 < ((g + ((2 : Int32) * Int32.ofNat x)) - Int32.ofNat l) then some (0 : Int64) else some (Int64.ofNat (ch l x)))) : Option (Int64))) (fun z => c + z = c') := by
      intro c' hc
      have e := wp_is hc
      by_cases g0 : g = 0
      · simp only [if_pos g0] at e ⊢
        by_cases v0 : ((g + ((2 : Int32) * Int32.ofNat x)) - Int32.ofNat l) ≤ 0
        · simp only [if_pos v0] at e ⊢
          cases e
          exact wp_some (Int64.add_zero _)
        · simp only [if_neg v0, c_choose M (show l ≤ 24 from by omega) (show x ≤ 1000 from by omega)] at e ⊢
          exact wp_some (Option.some.inj e)
      · simp only [if_neg g0] at e ⊢
        by_cases v0 : 0 < ((g + ((2 : Int32) * Int32.ofNat x)) - Int32.ofNat l)
        · simp only [if_pos v0] at e ⊢
          cases e
          exact wp_some (Int64.add_zero _)
        · simp only [if_neg v0, c_choose M (show l ≤ 24 from by omega) (show x ≤ 1000 from by omega)] at e ⊢
          exact wp_some (Option.some.inj e)
    have ex : ∃ c', wp (((if g = 0 then (if ((g + ((2 : Int32) * Int32.ofNat x)) - Int32.ofNat l) ≤ 0 then some c else (f_X4_choose M (Int32.ofNat l) (Int32.ofNat x)).bind (fun r13 => am_let (c + r13) (fun v14 => some v14))) else (if 0 < ((g + ((2 : Int32) * Int32.ofNat x)) - Int32.ofNat l) then some c else (f_X4_choose M (Int32.ofNat l) (Int32.ofNat x)).bind (fun r9 => am_let (c + r9) (fun v10 => some v10)))) : Option (Int64))) (fun z => z = c') := by
      rw [c_choose M (show l ≤ 24 from by omega) (show x ≤ 1000 from by omega)]
      by_cases g0 : g = 0
      · by_cases v0 : ((g + ((2 : Int32) * Int32.ofNat x)) - Int32.ofNat l) ≤ 0
        · exact ⟨c, wp_pos g0 (wp_pos v0 (wp_some rfl))⟩
        · exact ⟨c + Int64.ofNat (ch l x), wp_pos g0 (wp_neg v0 (wp_some rfl))⟩
      · by_cases v0 : 0 < ((g + ((2 : Int32) * Int32.ofNat x)) - Int32.ofNat l)
        · exact ⟨c, wp_neg g0 (wp_pos v0 (wp_some rfl))⟩
        · exact ⟨c + Int64.ofNat (ch l x), wp_neg g0 (wp_neg v0 (wp_some rfl))⟩
    obtain ⟨c', hc'⟩ := ex
    obtain ⟨r, e4, e5⟩ := ih (x + 1) (by omega) m m' c' (by omega) (by omega)
    refine ⟨r, wp_is ?_, fun wy hw => wp_is ?_⟩
    · rw [l_X4_lost_42]
      refine wp_lt (by omega) (by omega) (fun e => absurd e (by omega)) (fun _ => wp_let (wp_call hc' (fun z hz => wp_let ?_)))
      rw [hz, i_s]
      exact wp_eq e4 rfl
    · rw [l_X5_lost_51, hw hxl]
      refine wp_lt (by omega) (by omega) (fun e => absurd e (by omega)) (fun _ => wp_let (wp_call (key c' hc') (fun z hz => wp_let ?_)))
      rw [hz, i_s, i_sub hxl, l_of (by omega), l_of (by omega), l_mul, l_div (by omega) (by omega), b3]
      refine wp_pos (fun z0 => ?_) (wp_let (wp_let ?_))
      · rw [l_e0 (by omega)] at z0
        omega
      · exact wp_eq (e5 _ (fun _ => rfl)) rfl
theorem k_lost : ok_lost GT := by
  intro tr b M x1 h
  obtain ⟨⟨D, w, hD, hR⟩, _⟩ := id h
  by_cases hc : 0 ≤ x1.toInt ∧ x1.toInt ≤ 20
  · obtain ⟨l, hl, rfl⟩ := i_nat (m := 20) hc
    obtain ⟨r, e4, e5⟩ := lost_loop M M (l := l) (g := if 0 ≤ (((2 : Int32) * Int32.ofNat (de D)) - Int32.ofNat (dn D)) then (((2 : Int32) * Int32.ofNat (de D)) - Int32.ofNat (dn D)) else 0 - (((2 : Int32) * Int32.ofNat (de D)) - Int32.ofNat (dn D))) hl (l + 1) 0 (by omega) 1000 1000 0 (by omega) (by omega)
    refine ⟨(r.toInt32, M), (r.toInt32, M), wp_is ?_, wp_is ?_, rfl, h⟩
    · unfold f_X4_lost
      rw [hD.2.1, hD.2.2.1]
      exact wp_be (f_w M _ (m := 20) (by decide)) (wp_neg (bz_dn hc) (wp_let (wp_be e4 (wp_some rfl))))
    · unfold f_X5_lost
      refine wp_be (f_i M _ (l := 0) (m := 20) (by decide) (by decide)) (wp_neg (bz_dn hc) (wp_be (r_allA w.H hR.H) (wp_be (r_all w.H hR.H) (wp_let ?_))))
      refine wp_call (Q := fun z => z = if 0 ≤ (((2 : Int32) * Int32.ofNat (de D)) - Int32.ofNat (dn D)) then (((2 : Int32) * Int32.ofNat (de D)) - Int32.ofNat (dn D)) else 0 - (((2 : Int32) * Int32.ofNat (de D)) - Int32.ofNat (dn D))) (wp_ite (fun e => wp_some (by rw [if_pos e])) (fun e => wp_some (by rw [if_neg e, Int32.zero_sub]))) (fun z hz => ?_)
      rw [hz]
      exact wp_be (e5 1 (fun _ => by rw [ch_0]; rfl)) (wp_some rfl)
  · refine gt_r0 (g := fun N => f_X5_lost N 0 x1) (v := (-2 : Int32)) (w := 2) (by omega) h (wp_is ?_) (fun N => wp_is ?_)
    · unfold f_X4_lost
      exact wp_be (f_w M _ (m := 20) (by decide)) (wp_pos (bz_n hc) (wp_be (x4_ref2 M) (wp_some rfl)))
    · unfold f_X5_lost
      exact wp_be (f_i N _ (l := 0) (m := 20) (by decide) (by decide)) (wp_pos (bz_n hc) (wp_be (x5_ref2 N) (wp_some rfl)))
