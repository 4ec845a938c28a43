/-! the reference's moments -/
theorem tf_big0 {P mk : Nat → Nat → Bool} (h0 : ∀ a, mk 0 a = false) : ∀ {t m : Nat}, t < m → ∀ a, tf P mk t a m = 0
  | 0, m, h, a => by
    rw [tf, h0 a, if_neg (by simp; omega)]
  | t + 1, m, h, a => by
    rw [tf, tf_big0 h0 (by omega : t < m) a, tf_big0 h0 (by omega : t < m - 1) a, pv_zero (fun b _ => tf_big0 h0 (by omega : t < m) b), pv_zero (fun b _ => tf_big0 h0 (by omega : t < m - 1) b)]
    split
    · split
      · split <;> rfl
      · rfl
    · rfl
theorem r_cm10 {o a : Nat} {x1 : Int32} (ha : a ≤ 24) : ∀ (m x : Nat) (M : am_M), x ≤ 25 → 26 ≤ m + x → wp (l_X5_countMoments_10 o x1 (Int32.ofNat a) m (Int32.ofNat x) M) (fun N => ∀ s b, N.2 732 o s b = if s = a ∧ x ≤ b ∧ b ≤ 24 then 0 else M.2 732 o s b) := by
  intro m
  induction m with
  | zero => intro x M h1 h2; omega
  | succ m ih =>
    intro x M hx hm
    rw [l_X5_countMoments_10]
    refine wp_lt (x := 24) (by omega) (by omega) (fun h => wp_some (fun s b => by rw [if_neg (by omega)])) (fun h => ?_)
    refine wp_inb (by omega) (by omega) (wp_inb (by omega) (by omega) (wp_let (wp_let ?_)))
    rw [i_cl (x := a) (by omega), i_cl (x := x) (by omega), i_s]
    refine wp_mono (ih (x + 1) _ (by omega) (by omega)) (fun N hN s b => ?_)
    rw [hN s b, sl2]
    by_cases hc : s = a ∧ b = x
    · rw [if_neg (show ¬ (s = a ∧ x + 1 ≤ b ∧ b ≤ 24) from by omega), if_pos hc, if_pos (show s = a ∧ x ≤ b ∧ b ≤ 24 from by omega)]
    · by_cases hd : s = a ∧ x ≤ b ∧ b ≤ 24
      · rw [if_pos (show s = a ∧ x + 1 ≤ b ∧ b ≤ 24 from by omega), if_pos hd]
      · rw [if_neg (show ¬ (s = a ∧ x + 1 ≤ b ∧ b ≤ 24) from by omega), if_neg hc, if_neg hd]
theorem r_cm2 {o : Nat} {x1 : Int32} : ∀ (m t : Nat) (M : am_M), t ≤ 25 → 26 ≤ m + t → wp (l_X5_countMoments_2 o x1 m (Int32.ofNat t) M) (fun N => ∀ s b, N.2 732 o s b = if t ≤ s ∧ s ≤ 24 ∧ b ≤ 24 then 0 else M.2 732 o s b) := by
  intro m
  induction m with
  | zero => intro t M h1 h2; omega
  | succ m ih =>
    intro t M ht hm
    rw [l_X5_countMoments_2]
    refine wp_lt (x := 24) (by omega) (by omega) (fun h => wp_some (fun s b => by rw [if_neg (by omega)])) (fun h => ?_)
    refine wp_call (r_cm10 (by omega) 1000 0 M (by omega) (by omega)) (fun N hN => wp_let ?_)
    rw [i_s]
    refine wp_mono (ih (t + 1) N (by omega) (by omega)) (fun N' hN' s b => ?_)
    rw [hN' s b, hN s b]
    by_cases hd : t ≤ s ∧ s ≤ 24 ∧ b ≤ 24
    · rw [if_pos hd]
      by_cases hs : s = t
      · rw [if_neg (show ¬ (t + 1 ≤ s ∧ s ≤ 24 ∧ b ≤ 24) from by omega), if_pos (show s = t ∧ 0 ≤ b ∧ b ≤ 24 from by omega)]
      · rw [if_pos (show t + 1 ≤ s ∧ s ≤ 24 ∧ b ≤ 24 from by omega)]
    · rw [if_neg hd, if_neg (show ¬ (t + 1 ≤ s ∧ s ≤ 24 ∧ b ≤ 24) from by omega), if_neg (show ¬ (s = t ∧ 0 ≤ b ∧ b ≤ 24) from by omega)]
theorem l_of0 : (0 : Int64) = Int64.ofNat 0 := rfl
/-- one cell's row of numbers of moments -/
theorem r_cm112 {o s a : Nat} {x1 : Int32} {P mk : Nat → Nat → Bool} (hs : s + 1 ≤ 24) (ha : a ≤ s + 1) : ∀ (m x : Nat) (M : am_M), x ≤ s + 2 → s + 3 ≤ m + x → M.1 728 o (s + 1) a = bz (P (s + 1) a) → (∀ b y, b ≤ 24 → y ≤ 24 → M.2 732 o b y = Int64.ofNat (tf P mk s b y)) → wp (l_X5_countMoments_112 o x1 (Int32.ofNat (s + 1)) (Int32.ofNat a) (bz (mk (s + 1) a)) m (Int32.ofNat x) M) (fun N => ∀ b y, N.2 733 o b y = if b = a ∧ x ≤ y ∧ y ≤ s + 1 then Int64.ofNat (tf P mk (s + 1) a y) else M.2 733 o b y) := by
  intro m
  induction m with
  | zero => intro x M h1 h2; omega
  | succ m ih =>
    intro x M hx hm h7 hT
    rw [l_X5_countMoments_112]
    refine wp_lt (by omega) (by omega) (fun h => wp_some (fun b y => by rw [if_neg (by omega)])) (fun h1 => ?_)
    have em : bz (mk (s + 1) a) = Int32.ofNat (if mk (s + 1) a = true then 1 else 0) := by cases mk (s + 1) a <;> rfl
    have eg : (if mk (s + 1) a = true then 1 else 0) ≤ 1 := by cases mk (s + 1) a <;> decide
    refine wp_call (Q := fun z => P (s + 1) a = true → z = Int64.ofNat (tf P mk (s + 1) a x)) ?_ (fun z hz => ?_)
    · rw [em]
      generalize hg : (if mk (s + 1) a = true then 1 else 0) = g at eg
      refine wp_le (by omega) (by omega) (fun hgx => ?_) (fun hgx => wp_some (fun hP => ?_))
      · rw [i_sub hgx, i_cl (x := x - g) (by omega), i_cl (x := a) (by omega)]
        refine wp_call (Q := fun z => z = Int64.ofNat (tf P mk s a (x - g))) ?_ (fun z29 hz29 => ?_)
        · refine wp_le (by omega) (by omega) (fun h' => wp_some ?_) (fun h' => ?_)
          · rw [tf_gt P mk (by omega)]
            rfl
          · exact wp_inb (by omega) (by omega) (wp_inb (by omega) (by omega) (wp_some (hT a (x - g) (by omega) (by omega))))
        · refine wp_call (Q := fun z => z = Int64.ofNat (pv (fun b => tf P mk s b (x - g)) a)) ?_ (fun z35 hz35 => wp_some (fun hP => ?_))
          · refine wp_le (y := 0) (by omega) (by omega) (fun h' => ?_) (fun h' => ?_)
            · have e : a = 0 := by omega
              subst e
              exact wp_some rfl
            · obtain ⟨a', rfl⟩ : ∃ a', a = a' + 1 := ⟨a - 1, by omega⟩
              rw [i_m, i_cl (x := a') (by omega)]
              refine wp_inb (by omega) (by omega) (wp_inb (by omega) (by omega) (wp_some ?_))
              rw [pv_s]
              exact hT a' (x - g) (by omega) (by omega)
          · rw [hz29, hz35, l_add, tf, if_pos hP]
            cases hm : mk (s + 1) a with
            | true =>
              rw [hm, if_pos rfl] at hg
              rw [if_pos rfl, if_neg (show ¬ x = 0 from by omega), ← hg]
            | false =>
              rw [hm, if_neg (by decide)] at hg
              rw [if_neg (by decide), ← hg, Nat.sub_zero]
      · rw [tf, if_pos hP]
        cases hm : mk (s + 1) a with
        | true => rw [if_pos rfl, if_pos (show x = 0 from by omega)]; rfl
        | false =>
          rw [hm, if_neg (by decide)] at hg
          omega
    · rw [i_cl (x := s + 1) (by omega), i_cl (x := a) (by omega), i_cl (x := x) (by omega), h7]
      refine wp_inb (by omega) (by omega) (wp_inb (by omega) (by omega) (wp_inb (by omega) (by omega) ?_))
      refine wp_call (Q := fun y => y = Int64.ofNat (tf P mk (s + 1) a x)) (wp_bz (fun hP => wp_some ?_) (fun hP => wp_some (hz hP))) (fun y hy => ?_)
      · rw [tf_no hP]
        rfl
      · subst hy
        refine wp_inb (by omega) (by omega) (wp_let (wp_let ?_))
        rw [i_s]
        refine wp_mono (ih (x + 1) _ (by omega) (by omega) (by rw [sl_i]; exact h7) (fun b y hb hy => by rw [sl_k (by decide)]; exact hT b y hb hy)) (fun N hN b y => ?_)
        rw [hN b y, sl2]
        by_cases hc : b = a ∧ y = x
        · rw [if_neg (show ¬ (b = a ∧ x + 1 ≤ y ∧ y ≤ s + 1) from by omega), if_pos hc, if_pos (show b = a ∧ x ≤ y ∧ y ≤ s + 1 from by omega), hc.2]
        · by_cases hd : b = a ∧ x ≤ y ∧ y ≤ s + 1
          · rw [if_pos hd, if_pos (show b = a ∧ x + 1 ≤ y ∧ y ≤ s + 1 from by omega)]
          · rw [if_neg hd, if_neg (show ¬ (b = a ∧ x + 1 ≤ y ∧ y ≤ s + 1) from by omega), if_neg hc]
def isMk (x1 : Int32) (mk : Nat → Nat → Bool) : Prop := ∀ t a, 1 ≤ t → t ≤ 24 → a ≤ 24 → wp (if x1 = 0 then (if ((2 : Int32) * Int32.ofNat a) - Int32.ofNat t ≤ 0 then some (0 : Int32) else some (1 : Int32)) else (if ((2 : Int32) * Int32.ofNat a) - Int32.ofNat t = 0 then some (1 : Int32) else some (0 : Int32))) (fun y => y = bz (mk t a))
theorem isMk_0 : isMk 0 (ah 1) := by
  intro t a h1 ht ha
  have hl := i_lead (t := t) (a := a) (by omega) (by omega)
  refine wp_pos rfl (wp_tl (fun h => wp_some ?_) (fun h => wp_some ?_))
  · rw [hl, t0] at h
    unfold ah
    rw [bz_n (by omega)]
  · rw [hl, t0] at h
    unfold ah
    rw [bz_d (by omega)]
theorem isMk_1 : isMk 1 (fun t a => decide (0 < t ∧ 2 * a = t)) := by
  intro t a h1 ht ha
  have hl := i_lead (t := t) (a := a) (by omega) (by omega)
  refine wp_neg (by decide) (wp_te (fun h => wp_some ?_) (fun h => wp_some ?_))
  · rw [hl, t0] at h
    dsimp only
    rw [bz_d (by omega)]
  · rw [hl, t0] at h
    dsimp only
    rw [bz_n (by omega)]
theorem r_cm73 {o s : Nat} {x1 : Int32} {P mk : Nat → Nat → Bool} (hs : s + 1 ≤ 24) (hmk : isMk x1 mk) : ∀ (m x : Nat) (M : am_M), x ≤ s + 2 → s + 3 ≤ m + x → (∀ a, a ≤ 24 → M.1 728 o (s + 1) a = bz (P (s + 1) a)) → (∀ b y, b ≤ 24 → y ≤ 24 → M.2 732 o b y = Int64.ofNat (tf P mk s b y)) → wp (l_X5_countMoments_73 o x1 (Int32.ofNat (s + 1)) m (Int32.ofNat x) M) (fun N => ∀ b y, N.2 733 o b y = if x ≤ b ∧ b ≤ s + 1 ∧ y ≤ s + 1 then Int64.ofNat (tf P mk (s + 1) b y) else M.2 733 o b y) := by
  intro m
  induction m with
  | zero => intro x M h1 h2; omega
  | succ m ih =>
    intro x M hx hm h7 hT
    rw [l_X5_countMoments_73]
    refine wp_lt (by omega) (by omega) (fun h => wp_some (fun b y => by rw [if_neg (by omega)])) (fun h1 => wp_let ?_)
    refine wp_call (hmk (s + 1) x (by omega) (by omega) (by omega)) (fun z hz => ?_)
    subst hz
    refine wp_call (wp_km (r_cm112 (P := P) (mk := mk) hs h1 1000 0 M (by omega) (by omega) (h7 x (by omega)) hT) (fr_l_X5_countMoments_112 _ _ _)) (fun N hN => wp_let ?_)
    obtain ⟨hN, hk⟩ := hN
    rw [i_s]
    refine wp_mono (ih (x + 1) N (by omega) (by omega) (fun a ha => (hk.i _ _ _ _ rfl).trans (h7 a ha)) (fun b y hb hy => (hk.l _ _ _ _ rfl).trans (hT b y hb hy))) (fun N' hN' b y => ?_)
    rw [hN' b y, hN b y]
    by_cases hd : x ≤ b ∧ b ≤ s + 1 ∧ y ≤ s + 1
    · rw [if_pos hd]
      by_cases hb : b = x
      · rw [if_neg (show ¬ (x + 1 ≤ b ∧ b ≤ s + 1 ∧ y ≤ s + 1) from by omega), if_pos (show b = x ∧ 0 ≤ y ∧ y ≤ s + 1 from by omega), hb]
      · rw [if_pos (show x + 1 ≤ b ∧ b ≤ s + 1 ∧ y ≤ s + 1 from by omega)]
    · rw [if_neg hd, if_neg (show ¬ (x + 1 ≤ b ∧ b ≤ s + 1 ∧ y ≤ s + 1) from by omega), if_neg (show ¬ (b = x ∧ 0 ≤ y ∧ y ≤ s + 1) from by omega)]
theorem r_cm223 {o t a : Nat} {x1 : Int32} (ht : t ≤ 24) (ha : a ≤ 24) : ∀ (m x : Nat) (M : am_M), x ≤ t + 1 → t + 2 ≤ m + x → wp (l_X5_countMoments_223 o x1 (Int32.ofNat t) (Int32.ofNat a) m (Int32.ofNat x) M) (fun N => ∀ b y, N.2 732 o b y = if b = a ∧ x ≤ y ∧ y ≤ t then M.2 733 o b y else M.2 732 o b y) := by
  intro m
  induction m with
  | zero => intro x M h1 h2; omega
  | succ m ih =>
    intro x M hx hm
    rw [l_X5_countMoments_223]
    refine wp_lt (by omega) (by omega) (fun h => wp_some (fun b y => by rw [if_neg (by omega)])) (fun h1 => ?_)
    refine wp_inb (by omega) (by omega) (wp_inb (by omega) (by omega) (wp_inb (by omega) (by omega) (wp_inb (by omega) (by omega) (wp_let (wp_let ?_)))))
    rw [i_cl (x := a) (by omega), i_cl (x := x) (by omega), i_s]
    refine wp_mono (ih (x + 1) _ (by omega) (by omega)) (fun N hN b y => ?_)
    rw [hN b y, sl2, sl_k (by decide)]
    by_cases hc : b = a ∧ y = x
    · rw [if_neg (show ¬ (b = a ∧ x + 1 ≤ y ∧ y ≤ t) from by omega), if_pos hc, if_pos (show b = a ∧ x ≤ y ∧ y ≤ t from by omega), hc.1, hc.2]
    · by_cases hd : b = a ∧ x ≤ y ∧ y ≤ t
      · rw [if_pos hd, if_pos (show b = a ∧ x + 1 ≤ y ∧ y ≤ t from by omega)]
      · rw [if_neg hd, if_neg (show ¬ (b = a ∧ x + 1 ≤ y ∧ y ≤ t) from by omega), if_neg hc]
theorem r_cm215 {o t : Nat} {x1 : Int32} (ht : t ≤ 24) : ∀ (m x : Nat) (M : am_M), x ≤ t + 1 → t + 2 ≤ m + x → wp (l_X5_countMoments_215 o x1 (Int32.ofNat t) m (Int32.ofNat x) M) (fun N => ∀ b y, N.2 732 o b y = if x ≤ b ∧ b ≤ t ∧ y ≤ t then M.2 733 o b y else M.2 732 o b y) := by
  intro m
  induction m with
  | zero => intro x M h1 h2; omega
  | succ m ih =>
    intro x M hx hm
    rw [l_X5_countMoments_215]
    refine wp_lt (by omega) (by omega) (fun h => wp_some (fun b y => by rw [if_neg (by omega)])) (fun h1 => ?_)
    refine wp_call (wp_km (r_cm223 ht (show x ≤ 24 from by omega) 1000 0 M (by omega) (by omega)) (fr_l_X5_countMoments_223 _ _ _)) (fun N hN => wp_let ?_)
    obtain ⟨hN, hk⟩ := hN
    rw [i_s]
    refine wp_mono (ih (x + 1) N (by omega) (by omega)) (fun N' hN' b y => ?_)
    rw [hN' b y, hN b y, hk.l 733 o b y rfl]
    by_cases hd : x ≤ b ∧ b ≤ t ∧ y ≤ t
    · rw [if_pos hd]
      by_cases hb : b = x
      · rw [if_neg (show ¬ (x + 1 ≤ b ∧ b ≤ t ∧ y ≤ t) from by omega), if_pos (show b = x ∧ 0 ≤ y ∧ y ≤ t from by omega)]
      · rw [if_pos (show x + 1 ≤ b ∧ b ≤ t ∧ y ≤ t from by omega)]
    · rw [if_neg hd, if_neg (show ¬ (x + 1 ≤ b ∧ b ≤ t ∧ y ≤ t) from by omega), if_neg (show ¬ (b = x ∧ 0 ≤ y ∧ y ≤ t) from by omega)]
theorem r_cm63 {o n : Nat} {x1 : Int32} {P mk : Nat → Nat → Bool} (hn : n ≤ 24) (hmk : isMk x1 mk) (hm0 : ∀ a, mk 0 a = false) : ∀ (m s : Nat) (M : am_M), s ≤ n → n + 1 ≤ m + s → RM M o n P → (∀ b y, b ≤ 24 → y ≤ 24 → M.2 732 o b y = Int64.ofNat (tf P mk s b y)) → wp (l_X5_countMoments_63 o x1 m (Int32.ofNat (s + 1)) M) (fun N => ∀ b y, b ≤ 24 → y ≤ 24 → N.2 732 o b y = Int64.ofNat (tf P mk n b y)) := by
  intro m
  induction m with
  | zero => intro s M h1 h2; omega
  | succ m ih =>
    intro s M hs hm hR hT
    rw [l_X5_countMoments_63, hR.1]
    refine wp_lt (by omega) (by omega) (fun h => ?_) (fun h => ?_)
    · have e : s = n := by omega
      subst e
      exact wp_some hT
    refine wp_call (wp_km (r_cm73 (P := P) (mk := mk) (s := s) (by omega) hmk 1000 0 M (by omega) (by omega) (fun a ha => hR.2 _ a h ha) hT) (fr_l_X5_countMoments_73 _ _ _)) (fun N hN => ?_)
    obtain ⟨hN, hk⟩ := hN
    refine wp_call (wp_km (r_cm215 (t := s + 1) (by omega) 1000 0 N (by omega) (by omega)) (fr_l_X5_countMoments_215 _ _ _)) (fun N2 hN2 => wp_let ?_)
    obtain ⟨hN2, hk2⟩ := hN2
    rw [i_s]
    refine ih (s + 1) N2 (by omega) (by omega) ((hR.mv hk rfl (fun _ => rfl)).mv hk2 rfl (fun _ => rfl)) (fun b y hb hy => ?_)
    rw [hN2 b y]
    by_cases hc : 0 ≤ b ∧ b ≤ s + 1 ∧ y ≤ s + 1
    · rw [if_pos hc, hN b y, if_pos hc]
    · rw [if_neg hc, hk.l 732 o b y rfl, hT b y hb hy]
      by_cases h1 : b ≤ s + 1
      · rw [tf_big0 hm0 (show s < y from by omega), tf_big0 hm0 (show s + 1 < y from by omega)]
      · rw [tf_gt P mk (show s < b from by omega), tf_gt P mk (show s + 1 < b from by omega)]
theorem r_countMoments {M : am_M} {o n : Nat} {x1 : Int32} {P mk : Nat → Nat → Bool} (hn : n ≤ 24) (hR : RM M o n P) (hmk : isMk x1 mk) (hm0 : ∀ a, mk 0 a = false) : wp (f_X5_countMoments M o x1) (fun N => ∀ b y, b ≤ 24 → y ≤ 24 → N.2 732 o b y = Int64.ofNat (tf P mk n b y)) := by
  unfold f_X5_countMoments
  refine wp_call (wp_km (r_cm2 1000 0 M (by omega) (by omega)) (fr_l_X5_countMoments_2 _ _ _)) (fun N hN => ?_)
  obtain ⟨hN, hk⟩ := hN
  have hR' := hR.mv hk rfl (fun _ => rfl)
  rw [show (0 : Int32).toNatClampNeg = 0 from rfl, hR'.2 0 0 (Nat.zero_le _) (by omega)]
  refine wp_call (Q := fun z => z = Int64.ofNat (cf P 0 0)) (wp_bz (fun hP => wp_some ?_) (fun hP => wp_some ?_)) (fun z hz => ?_)
  · rw [cf_no hP]
    rfl
  · rw [cf, hP]
    rfl
  · subst hz
    refine wp_let (wp_call (r_cm63 (P := P) (mk := mk) hn hmk hm0 1000 0 _ (by omega) (by omega) ⟨by rw [sl_i]; exact hR'.1, fun t a ht ha => by rw [sl_i]; exact hR'.2 t a ht ha⟩ (fun b y hb hy => ?_)) (fun N2 hN2 => wp_some hN2))
    rw [sl2, hN b y, if_pos (show 0 ≤ b ∧ b ≤ 24 ∧ y ≤ 24 from by omega), tf, hm0 b]
    by_cases hb0 : b = 0
    · subst hb0
      by_cases hy0 : y = 0
      · rw [if_pos ⟨rfl, hy0⟩, if_pos (by simpa using hy0)]
      · rw [if_neg (fun z => hy0 z.2), if_neg (by simpa using hy0)]
        rfl
    · rw [if_neg (fun z => hb0 z.1), cf_gt P (by omega), ite_self]
      rfl
theorem r_levels_5 {M : am_M} {o n y : Nat} {g : Nat → Nat} (hn : n ≤ 24) (hy : y ≤ 24) (h0 : M.1 5 o 0 29 = Int32.ofNat n) (hg : ∀ b, b ≤ n → M.2 732 o b y = Int64.ofNat (g b)) : ∀ (m j : Nat), j ≤ n + 1 → n + 2 ≤ m + j → wp (l_X5_levels_5 M o (Int32.ofNat y) m (Int64.ofNat (sm g j)) (Int32.ofNat j)) (fun z => z = Int64.ofNat (sm g (n + 1))) := by
  intro m
  induction m with
  | zero => intro j h1 h2; omega
  | succ m ih =>
    intro j hj hm
    rw [l_X5_levels_5, h0]
    refine wp_lt (by omega) (by omega) (fun h' => ?_) (fun hle => ?_)
    · have e : j = n + 1 := by omega
      subst e
      exact wp_some rfl
    refine wp_inb (by omega) (by omega) (wp_inb (by omega) (by omega) (wp_let (wp_let ?_)))
    rw [i_cl (x := j) (by omega), i_cl (x := y) (by omega), hg j hle, l_add, i_s]
    exact ih (j + 1) (by omega) (by omega)
theorem r_levels {M : am_M} {o n e y : Nat} {P mk : Nat → Nat → Bool} (hn : n ≤ 24) (hy : y ≤ 24) (he : e ≤ n) (h0 : M.1 5 o 0 29 = Int32.ofNat n) (hend : ∀ a, P n a = true → a = e) (hT : ∀ b y, b ≤ 24 → y ≤ 24 → M.2 732 o b y = Int64.ofNat (tf P mk n b y)) : f_X5_levels M o (Int32.ofNat y) = some (Int64.ofNat (tf P mk n e y)) := by
  unfold f_X5_levels
  have e1 : sm (fun b => tf P mk n b y) (n + 1) = tf P mk n e y := sm_one (e := e) (by omega) (fun a _ hne => tf_no (by
    cases hP : P n a with
    | false => rfl
    | true => exact absurd (hend a hP) hne) y)
  rw [← e1]
  exact wp_is (wp_call (r_levels_5 (g := fun b => tf P mk n b y) hn hy h0 (fun b hb => hT b y (by omega) hy) 1000 0 (by omega) (by omega)) (fun z hz => wp_some hz))
