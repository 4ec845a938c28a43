/-! the reference's counts -/
def cq (P so : Nat → Nat → Bool) (t a : Nat) : Bool := P t a && (decide (t = 0) || so t a)
theorem r_pre {M : am_M} {o t a : Nat} {u : Nat → Nat} (ht : t ≤ 24) (ha : a ≤ t) (hu : ∀ b, b < t → M.2 730 o (t - 1) b = Int64.ofNat (u b)) (hz : 0 < t → u t = 0) : ((if Int32.ofNat t = 0 then some (1 : Int64) else ((if Int32.ofNat a ≤ 0 then some (0 : Int64) else if am_inb (Int32.ofNat t - (1 : Int32)) 25 = true then if am_inb (Int32.ofNat a - (1 : Int32)) 25 = true then some (M.2 730 o (Int32.ofNat t - (1 : Int32)).toNatClampNeg (Int32.ofNat a - (1 : Int32)).toNatClampNeg) else none else none) : Option (Int64)).bind (fun z4 => ((if Int32.ofNat t ≤ Int32.ofNat a then some (0 : Int64) else if am_inb (Int32.ofNat t - (1 : Int32)) 25 = true then if am_inb (Int32.ofNat a) 25 = true then some (M.2 730 o (Int32.ofNat t - (1 : Int32)).toNatClampNeg (Int32.ofNat a).toNatClampNeg) else none else none) : Option (Int64)).bind (fun z10 => some (z4 + z10)))) : Option (Int64)) = some (Int64.ofNat (if t = 0 then 1 else u a + pv u a)) := by
  refine wp_is ?_
  refine wp_ieq (y := 0) (by omega) (by omega) (fun h => wp_some (by rw [if_pos h]; rfl)) (fun h => ?_)
  obtain ⟨t', rfl⟩ : ∃ t', t = t' + 1 := ⟨t - 1, by omega⟩
  have hu : ∀ b, b < t' + 1 → M.2 730 o t' b = Int64.ofNat (u b) := hu
  rw [if_neg h, i_m, i_cl (x := t') (by omega)]
  refine wp_call (Q := fun z => z = Int64.ofNat (pv u a)) ?_ (fun z hz4 => ?_)
  · refine wp_le (y := 0) (by omega) (by omega) (fun h' => ?_) (fun h' => ?_)
    · have e : a = 0 := by omega
      subst e
      exact wp_some rfl
    · obtain ⟨a', rfl⟩ : ∃ a', a = a' + 1 := ⟨a - 1, by omega⟩
      rw [i_m, i_cl (x := a') (by omega)]
      refine wp_inb (by omega) (by omega) (wp_inb (by omega) (by omega) (wp_some ?_))
      rw [pv_s]
      exact hu a' (by omega)
  · subst hz4
    refine wp_call (Q := fun z => z = Int64.ofNat (u a)) ?_ (fun z hz10 => wp_some ?_)
    · refine wp_le (by omega) (by omega) (fun h' => wp_some ?_) (fun h' => ?_)
      · have e : a = t' + 1 := by omega
        rw [e, hz (by omega)]
        rfl
      · rw [i_cl (x := a) (by omega)]
        exact wp_inb (by omega) (by omega) (wp_inb (by omega) (by omega) (wp_some (hu a (by omega))))
    · rw [hz10, l_add, Nat.add_comm]
theorem r_count13 {o n t : Nat} {w k : Int32} {P so : Nat → Nat → Bool} (hn : n ≤ 24) (ht : t ≤ n) (hso : ∀ (M : am_M) (a : Nat), M.1 5 o 0 29 = Int32.ofNat n → 1 ≤ t → a ≤ t → f_X5_isSo M o w k (Int32.ofNat t) (Int32.ofNat a) = some (bz (so t a))) : ∀ (m x : Nat) (M : am_M), x ≤ t + 1 → t + 2 ≤ m + x → M.1 5 o 0 29 = Int32.ofNat n → (∀ a, a ≤ t → M.1 728 o t a = bz (P t a)) → (∀ b, b < t → M.2 730 o (t - 1) b = Int64.ofNat (cf (cq P so) (t - 1) b)) → wp (l_X5_count_13 o w k (Int32.ofNat t) m (Int32.ofNat x) M) (fun N => ∀ s b, N.2 730 o s b = if s = t ∧ x ≤ b ∧ b ≤ t then Int64.ofNat (cf (cq P so) t b) else M.2 730 o s b) := by
  intro m
  induction m with
  | zero => intro x M h1 h2; omega
  | succ m ih =>
    intro x M hx hm h5 h7 hb
    rw [l_X5_count_13]
    refine wp_lt (by omega) (by omega) (fun h => wp_some (fun s b => by rw [if_neg (by omega)])) (fun h1 => ?_)
    refine wp_be (r_pre (u := cf (cq P so) (t - 1)) (by omega) h1 hb (fun h0 => cf_gt _ (by omega))) ?_
    rw [i_cl (x := t) (by omega), i_cl (x := x) (by omega), h7 x h1]
    refine wp_inb (by omega) (by omega) (wp_inb (by omega) (by omega) (wp_inb (by omega) (by omega) ?_))
    refine wp_call (Q := fun z => z = Int64.ofNat (cf (cq P so) t x)) ?_ (fun z hz => ?_)
    · refine wp_bz (fun hP => wp_some ?_) (fun hP => ?_)
      · rw [cf_no (by unfold cq; rw [hP]; rfl)]
        rfl
      · refine wp_ieq (y := 0) (by omega) (by omega) (fun h0 => wp_some ?_) (fun h0 => ?_)
        · have hx0 : x = 0 := by omega
          rw [if_pos h0, hx0, h0]
          rw [h0, hx0] at hP
          have e : (cq P so 0 0 && (0 == 0)) = true := by unfold cq; rw [hP]; rfl
          rw [cf, if_pos e]
        · refine wp_be (hso M x h5 (by omega) h1) ?_
          refine wp_bz (fun hs => wp_some ?_) (fun hs => wp_some ?_)
          · rw [cf_no (by unfold cq; rw [hs, decide_eq_false h0]; simp)]
            rfl
          · obtain ⟨t', rfl⟩ : ∃ t', t = t' + 1 := ⟨t - 1, by omega⟩
            have e : cq P so (t' + 1) x = true := by unfold cq; rw [hs, hP]; simp
            rw [if_neg h0, cf, if_pos e]
            rfl
    · subst hz
      refine wp_inb (by omega) (by omega) (wp_let (wp_let ?_))
      rw [i_s]
      refine wp_mono (ih (x + 1) _ (by omega) (by omega) (by rw [sl_i]; exact h5) (fun a ha => by rw [sl_i]; exact h7 a ha) (fun b hb' => ?_)) (fun N hN s b => ?_)
      · rw [sl2, if_neg (by omega)]
        exact hb b hb'
      · rw [hN s b, sl2]
        by_cases hc : s = t ∧ b = x
        · rw [if_neg (show ¬ (s = t ∧ x + 1 ≤ b ∧ b ≤ t) from by omega), if_pos hc, if_pos (show s = t ∧ x ≤ b ∧ b ≤ t from by omega), hc.2]
        · by_cases hd : s = t ∧ x ≤ b ∧ b ≤ t
          · rw [if_pos hd, if_pos (show s = t ∧ x + 1 ≤ b ∧ b ≤ t from by omega)]
          · rw [if_neg hd, if_neg (show ¬ (s = t ∧ x + 1 ≤ b ∧ b ≤ t) from by omega), if_neg hc]
theorem r_count2 {o n : Nat} {w k : Int32} {P so : Nat → Nat → Bool} (hn : n ≤ 24) (hso : ∀ (M : am_M) (t a : Nat), M.1 5 o 0 29 = Int32.ofNat n → 1 ≤ t → t ≤ n → a ≤ t → f_X5_isSo M o w k (Int32.ofNat t) (Int32.ofNat a) = some (bz (so t a))) : ∀ (m t : Nat) (M : am_M), t ≤ n + 1 → n + 2 ≤ m + t → RM M o n P → (∀ s b, s < t → b ≤ s → M.2 730 o s b = Int64.ofNat (cf (cq P so) s b)) → wp (l_X5_count_2 o w k m (Int32.ofNat t) M) (fun N => ∀ s b, s ≤ n → b ≤ s → N.2 730 o s b = Int64.ofNat (cf (cq P so) s b)) := by
  intro m
  induction m with
  | zero => intro t M h1 h2; omega
  | succ m ih =>
    intro t M ht hm hR hC
    rw [l_X5_count_2, hR.1]
    refine wp_lt (by omega) (by omega) (fun h => wp_some (fun s b hs hb => hC s b (by omega) hb)) (fun h => ?_)
    refine wp_call (wp_km (r_count13 hn h (fun M a h5 h1 ha => hso M t a h5 h1 h ha) 1000 0 M (by omega) (by omega) hR.1 (fun a ha => hR.2 t a h (by omega)) (fun b hb => hC (t - 1) b (by omega) (by omega))) (fr_l_X5_count_13 _ _ _)) (fun N hN => wp_let ?_)
    obtain ⟨hN, hk⟩ := hN
    rw [i_s]
    refine ih (t + 1) N (by omega) (by omega) (hR.mv hk rfl (fun _ => rfl)) (fun s b hs hb => ?_)
    rw [hN s b]
    by_cases hc : s = t ∧ 0 ≤ b ∧ b ≤ t
    · rw [if_pos hc, hc.1]
    · rw [if_neg hc]
      exact hC s b (by omega) hb
theorem r_count133 {M : am_M} {o n : Nat} {g : Nat → Nat} (hn : n ≤ 24) (h0 : M.1 5 o 0 29 = Int32.ofNat n) (hg : ∀ b, b ≤ n → M.2 730 o n b = Int64.ofNat (g b)) : ∀ (m j : Nat), j ≤ n + 1 → n + 2 ≤ m + j → wp (l_X5_count_133 M o m (Int64.ofNat (sm g j)) (Int32.ofNat j)) (fun y => y = Int64.ofNat (sm g (n + 1))) := by
  intro m
  induction m with
  | zero => intro j h1 h2; omega
  | succ m ih =>
    intro j hj hm
    rw [l_X5_count_133, h0]
    refine wp_lt (by omega) (by omega) (fun h' => ?_) (fun hle => ?_)
    · have e : j = n + 1 := by omega
      subst e
      exact wp_some rfl
    refine wp_inb (by omega) (by omega) (wp_inb (by omega) (by omega) (wp_let (wp_let ?_)))
    rw [i_cl (x := n) (by omega), i_cl (x := j) (by omega), hg j hle, l_add, i_s]
    exact ih (j + 1) (by omega) (by omega)
theorem r_count {M : am_M} {o n e : Nat} {w k : Int32} {P so : Nat → Nat → Bool} (hn : n ≤ 24) (he : e ≤ n) (hR : RM M o n P) (hend : ∀ a, P n a = true → a = e) (hso : ∀ (M : am_M) (t a : Nat), M.1 5 o 0 29 = Int32.ofNat n → 1 ≤ t → t ≤ n → a ≤ t → f_X5_isSo M o w k (Int32.ofNat t) (Int32.ofNat a) = some (bz (so t a))) : wp (f_X5_count M o w k) (fun y => y.1 = Int64.ofNat (cf (cq P so) n e) ∧ ∀ s b, s ≤ n → b ≤ s → y.2.2 730 o s b = Int64.ofNat (cf (cq P so) s b)) := by
  unfold f_X5_count
  refine wp_call (wp_km (r_count2 hn hso 1000 0 M (by omega) (by omega) hR (fun s b hs => absurd hs (Nat.not_lt_zero s))) (fr_l_X5_count_2 _ _ _)) (fun N hN => ?_)
  obtain ⟨hN, hk⟩ := hN
  refine wp_call (r_count133 (g := fun b => cf (cq P so) n b) hn ((hk.i _ _ _ _ rfl).trans hR.1) (fun b hb => hN n b (Nat.le_refl n) hb) 1000 0 (by omega) (by omega)) (fun y hy => wp_some ⟨?_, hN⟩)
  have e1 : sm (fun b => cf (cq P so) n b) (n + 1) = cf (cq P so) n e := sm_one (e := e) (by omega) (fun a _ hne => cf_no (by
    unfold cq
    cases hP : P n a with
    | false => rfl
    | true => exact absurd (hend a hP) hne))
  rw [← e1]
  exact hy
/-! what a row may do -/
theorem ah_iff {k t a : Nat} (h : a ≤ t) : k * t < a * (k + 1) ↔ k * (t - a) < a := by
  have e1 : k * t = k * (t - a) + k * a := by rw [← Nat.mul_add, Nat.sub_add_cancel h]
  have e2 : a * (k + 1) = k * a + a := by rw [Nat.mul_add, Nat.mul_one, Nat.mul_comm]
  omega
theorem so_0 (M : am_M) (o : Nat) (k t a : Int32) : f_X5_isSo M o 0 k t a = some (bz true) := by
  unfold f_X5_isSo
  exact wp_is (wp_let (wp_neg (by decide) (wp_neg (by decide) (wp_neg (by decide) (wp_neg (by decide) (wp_neg (by decide) (wp_neg (by decide) (wp_some rfl))))))))
theorem ah_wp {k t a : Nat} (hk : k ≤ 9) (ht : t ≤ 24) (ha : a ≤ t) : wp (if Int32.ofNat a ≤ Int32.ofNat k * (Int32.ofNat t - Int32.ofNat a) then some (0 : Int32) else some (1 : Int32)) (fun y => y = bz (ah k t a)) := by
  have h1 := m_le (k := k) (t := t - a) hk (show t - a ≤ 24 from by omega)
  have h2 := ah_iff (k := k) ha
  rw [i_sub ha, i_mul]
  unfold ah
  refine wp_le (by omega) (by omega) (fun h => wp_some ?_) (fun h => wp_some ?_)
  · rw [bz_n (by omega)]
  · rw [bz_d (by omega)]
theorem so_1 (M : am_M) (o : Nat) {k t a : Nat} (hk : k ≤ 9) (ht : t ≤ 24) (ha : a ≤ t) : f_X5_isSo M o 1 (Int32.ofNat k) (Int32.ofNat t) (Int32.ofNat a) = some (bz (ah k t a)) := by
  unfold f_X5_isSo
  exact wp_is (wp_let (wp_pos rfl (ah_wp hk ht ha)))
theorem so_2 (M : am_M) (o : Nat) {k : Int32} {t a : Nat} (ht : t ≤ 24) (ha : a ≤ t) : f_X5_isSo M o 2 k (Int32.ofNat t) (Int32.ofNat a) = some (bz (decide (t ≤ 2 * a))) := by
  unfold f_X5_isSo
  refine wp_is (wp_let (wp_neg (by decide) (wp_pos rfl (wp_ti (fun h => wp_some ?_) (fun h => wp_some ?_)))))
  · rw [i_lead (by omega) (by omega), t0] at h
    rw [bz_n (by omega)]
  · rw [i_lead (by omega) (by omega), t0] at h
    rw [bz_d (by omega)]
theorem so_3 (M : am_M) (o : Nat) {k t a : Nat} (hk : k ≤ 24) (ht : t ≤ 24) (ha : a ≤ t) : f_X5_isSo M o 3 (Int32.ofNat k) (Int32.ofNat t) (Int32.ofNat a) = some (bz (decide (2 * a ≤ t + k))) := by
  unfold f_X5_isSo
  refine wp_is (wp_let (wp_neg (by decide) (wp_neg (by decide) (wp_pos rfl (wp_ti (fun h => wp_some ?_) (fun h => wp_some ?_))))))
  · rw [i_lead (by omega) (by omega), i_ti (by omega)] at h
    rw [bz_n (by omega)]
  · rw [i_lead (by omega) (by omega), i_ti (by omega)] at h
    rw [bz_d (by omega)]
theorem so_4 (M : am_M) (o : Nat) {k t a : Nat} (hk : k ≤ 24) (ht : t ≤ 24) (ha : a ≤ t) : f_X5_isSo M o 4 (Int32.ofNat k) (Int32.ofNat t) (Int32.ofNat a) = some (bz (decide (t ≤ k ∨ 2 * a ≠ t))) := by
  unfold f_X5_isSo
  refine wp_is (wp_let (wp_neg (by decide) (wp_neg (by decide) (wp_neg (by decide) (wp_pos rfl (wp_le (by omega) (by omega) (fun h => wp_some ?_) (fun h => wp_te (fun h' => wp_some ?_) (fun h' => wp_some ?_))))))))
  · rw [bz_d (by omega)]
  · rw [i_lead (by omega) (by omega), t0] at h'
    rw [bz_n (by omega)]
  · rw [i_lead (by omega) (by omega), t0] at h'
    rw [bz_d (by omega)]
theorem so_5 {M : am_M} {o n k t a : Nat} (h0 : M.1 5 o 0 29 = Int32.ofNat n) (hn : n ≤ 24) (hk : k ≤ 9) (ht : t ≤ 24) (ha : a ≤ t) : f_X5_isSo M o 5 (Int32.ofNat k) (Int32.ofNat t) (Int32.ofNat a) = some (bz (decide (t % 2 = 1 ∧ t < n) || ah k t a)) := by
  unfold f_X5_isSo
  rw [h0, i_mod2 (by omega)]
  refine wp_is (wp_let (wp_neg (by decide) (wp_neg (by decide) (wp_neg (by decide) (wp_neg (by decide) (wp_pos rfl (wp_ieq (y := 1) (by omega) (by omega) (fun h => wp_lt (by omega) (by omega) (fun h' => wp_some ?_) (fun h' => wp_mono (ah_wp hk ht ha) (fun y hy => ?_))) (fun h => wp_mono (ah_wp hk ht ha) (fun y hy => ?_)))))))))
  · rw [decide_eq_true ⟨h, h'⟩]
    rfl
  · rw [hy, decide_eq_false (by omega), Bool.false_or]
  · rw [hy, decide_eq_false (by omega), Bool.false_or]
theorem so_6 (M : am_M) (o : Nat) {k t a : Nat} (hk : k ≤ 9) (ht : t ≤ 24) (ha : a ≤ t) : f_X5_isSo M o 6 (Int32.ofNat k) (Int32.ofNat t) (Int32.ofNat a) = some (bz (!ah k t a)) := by
  unfold f_X5_isSo
  rw [i_sub ha, i_mul k]
  have h1 := m_le (k := k) (t := t - a) hk (show t - a ≤ 24 from by omega)
  have h2 := ah_iff (k := k) ha
  unfold ah
  refine wp_is (wp_let (wp_neg (by decide) (wp_neg (by decide) (wp_neg (by decide) (wp_neg (by decide) (wp_neg (by decide) (wp_pos rfl (wp_lt (by omega) (by omega) (fun h => wp_some ?_) (fun h => wp_some ?_)))))))))
  · rw [decide_eq_true (by omega)]
    rfl
  · rw [decide_eq_false (by omega)]
    rfl
/-! from the end back -/
def bk (P : Nat → Nat → Bool) (n e t a : Nat) : Nat := if P t a = true then bw P e (n - t) t a else 0
theorem bk_s {P : Nat → Nat → Bool} {n e t a : Nat} (h : t < n) (hP : P t a = true) : bk P n e t a = bk P n e (t + 1) a + bk P n e (t + 1) (a + 1) := by
  unfold bk
  rw [if_pos hP, show n - t = (n - (t + 1)) + 1 from by omega, bw]
theorem r_cb11 {o n e t : Nat} {P : Nat → Nat → Bool} (hn : n ≤ 24) (ht : t ≤ n) (hend : ∀ a, P n a = true → a = e) : ∀ (m x : Nat) (M : am_M), x ≤ t + 1 → t + 2 ≤ m + x → M.1 5 o 0 29 = Int32.ofNat n → (∀ a, a ≤ t → M.1 728 o t a = bz (P t a)) → (t < n → ∀ b, b ≤ t + 1 → M.2 731 o (t + 1) b = Int64.ofNat (bk P n e (t + 1) b)) → wp (l_X5_countBack_11 o (Int32.ofNat t) m (Int32.ofNat x) M) (fun N => ∀ s b, N.2 731 o s b = if s = t ∧ x ≤ b ∧ b ≤ t then Int64.ofNat (bk P n e t b) else M.2 731 o s b) := by
  intro m
  induction m with
  | zero => intro x M h1 h2; omega
  | succ m ih =>
    intro x M hx hm h5 h7 hb
    rw [l_X5_countBack_11, h5, i_s, i_s]
    refine wp_lt (by omega) (by omega) (fun h => wp_some (fun s b => by rw [if_neg (by omega)])) (fun h1 => ?_)
    refine wp_call (Q := fun z => P t x = true → z = Int64.ofNat (bk P n e t x)) ?_ (fun z hz => ?_)
    · refine wp_ieq (by omega) (by omega) (fun h => wp_some (fun hP => ?_)) (fun h => ?_)
      · unfold bk
        rw [if_pos hP, h, Nat.sub_self, bw, if_pos (hend x (by rw [← h]; exact hP))]
        rfl
      · rw [i_cl (x := t + 1) (by omega), i_cl (x := x) (by omega), i_cl (x := x + 1) (by omega)]
        refine wp_inb (by omega) (by omega) (wp_inb (by omega) (by omega) (wp_inb (by omega) (by omega) (wp_inb (by omega) (by omega) (wp_some (fun hP => ?_)))))
        rw [hb (by omega) x (by omega), hb (by omega) (x + 1) (by omega), l_add, ← bk_s (by omega) hP]
    · rw [i_cl (x := t) (by omega), i_cl (x := x) (by omega), h7 x h1]
      refine wp_inb (by omega) (by omega) (wp_inb (by omega) (by omega) (wp_inb (by omega) (by omega) ?_))
      refine wp_call (Q := fun y => y = Int64.ofNat (bk P n e t x)) (wp_bz (fun hP => wp_some ?_) (fun hP => wp_some (hz hP))) (fun y hy => ?_)
      · unfold bk
        rw [if_neg (by rw [hP]; decide)]
        rfl
      · subst hy
        refine wp_inb (by omega) (by omega) (wp_let (wp_let ?_))
        refine wp_mono (ih (x + 1) _ (by omega) (by omega) (by rw [sl_i]; exact h5) (fun a ha => by rw [sl_i]; exact h7 a ha) (fun h b hb' => ?_)) (fun N hN s b => ?_)
        · rw [sl2, if_neg (by omega)]
          exact hb h b hb'
        · rw [hN s b, sl2]
          by_cases hc : s = t ∧ b = x
          · rw [if_neg (show ¬ (s = t ∧ x + 1 ≤ b ∧ b ≤ t) from by omega), if_pos hc, if_pos (show s = t ∧ x ≤ b ∧ b ≤ t from by omega), hc.2]
          · by_cases hd : s = t ∧ x ≤ b ∧ b ≤ t
            · rw [if_pos hd, if_pos (show s = t ∧ x + 1 ≤ b ∧ b ≤ t from by omega)]
            · rw [if_neg hd, if_neg (show ¬ (s = t ∧ x + 1 ≤ b ∧ b ≤ t) from by omega), if_neg hc]
theorem r_cb5 {o n e : Nat} {P : Nat → Nat → Bool} (hn : n ≤ 24) (hend : ∀ a, P n a = true → a = e) : ∀ (m k : Nat) (M : am_M), k ≤ n + 1 → k + 1 ≤ m → RM M o n P → (∀ s b, k ≤ s → s ≤ n → b ≤ s → M.2 731 o s b = Int64.ofNat (bk P n e s b)) → wp (l_X5_countBack_5 o m (pm k) M) (fun N => ∀ s b, s ≤ n → b ≤ s → N.2 731 o s b = Int64.ofNat (bk P n e s b)) := by
  intro m
  induction m with
  | zero => intro k M h1 h2; omega
  | succ m ih =>
    intro k M hk hm hR hC
    rw [l_X5_countBack_5]
    cases k with
    | zero => exact wp_pos pm_0 (wp_some (fun s b hs hb => hC s b (Nat.zero_le _) hs hb))
    | succ t =>
      refine wp_neg (pm_s (by omega)) ?_
      refine wp_call (wp_km (r_cb11 (t := t) (e := e) hn (by omega) hend 1000 0 M (by omega) (by omega) hR.1 (fun a ha => hR.2 t a (by omega) (by omega)) (fun h b hb => hC (t + 1) b (Nat.le_refl _) (by omega) hb)) (fr_l_X5_countBack_11 _ _ _)) (fun N hN => wp_let ?_)
      obtain ⟨hN, hkp⟩ := hN
      rw [pm_p]
      refine ih t N (by omega) (by omega) (hR.mv hkp rfl (fun _ => rfl)) (fun s b h1 h2 h3 => ?_)
      rw [hN s b]
      by_cases hc : s = t ∧ 0 ≤ b ∧ b ≤ t
      · rw [if_pos hc, hc.1]
      · rw [if_neg hc]
        exact hC s b (by omega) h2 h3
theorem r_countBack {M : am_M} {o n e : Nat} {P : Nat → Nat → Bool} (hn : n ≤ 24) (hR : RM M o n P) (hend : ∀ a, P n a = true → a = e) : wp (f_X5_countBack M o) (fun N => ∀ s b, s ≤ n → b ≤ s → N.2 731 o s b = Int64.ofNat (bk P n e s b)) := by
  unfold f_X5_countBack
  rw [hR.1]
  exact wp_let (wp_call (r_cb5 hn hend 1000 (n + 1) M (by omega) (by omega) hR (fun s b h1 h2 h3 => by omega)) (fun N hN => wp_some hN))
theorem l_mul (x y : Nat) : Int64.ofNat x * Int64.ofNat y = Int64.ofNat (x * y) := (Int64.ofNat_mul x y).symm
theorem r_through {M : am_M} {o n t a u v : Nat} (hn : n ≤ 24) (ht : t ≤ n) (ha : a ≤ t) (h0 : M.2 730 o t a = Int64.ofNat u) (h1 : M.2 731 o t a = Int64.ofNat v) : f_X5_through M o (Int32.ofNat t) (Int32.ofNat a) = some (Int64.ofNat (u * v)) := by
  unfold f_X5_through
  refine wp_is (wp_inb (by omega) (by omega) (wp_inb (by omega) (by omega) (wp_inb (by omega) (by omega) (wp_inb (by omega) (by omega) (wp_some ?_)))))
  rw [i_cl (x := t) (by omega), i_cl (x := a) (by omega), h0, h1, l_mul]
theorem cf_bk (P : Nat → Nat → Bool) (n e t a : Nat) : cf P t a * bk P n e t a = cf P t a * bw P e (n - t) t a := by
  unfold bk
  cases hP : P t a with
  | false => rw [cf_no hP, Nat.zero_mul, Nat.zero_mul]
  | true => rw [if_pos rfl]
