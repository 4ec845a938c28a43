/-! one heap; rows read from the end -/
def PO (n e t a : Nat) : Bool := decide (a ≤ t ∧ a ≤ e ∧ t ≤ a + (n - e))
theorem r_one25 {o n e t : Nat} (hn : n ≤ 24) (he : e ≤ n) (ht : t ≤ n) : ∀ (m x : Nat) (M : am_M), x ≤ 25 → 26 ≤ m + x → M.1 5 o 0 29 = Int32.ofNat n → wp (l_X5_seeOneHeap_25 o (Int32.ofNat e) (Int32.ofNat t) m (Int32.ofNat x) M) (fun N => ∀ s b, N.1 728 o s b = if s = t ∧ x ≤ b ∧ b ≤ 24 then bz (PO n e t b) else M.1 728 o s b) := by
  intro m
  induction m with
  | zero => intro x M h1 h2; omega
  | succ m ih =>
    intro x M hx hm h5
    rw [l_X5_seeOneHeap_25, h5, i_sub he, i_cl (x := t) (by omega)]
    refine wp_lt (x := 24) (by omega) (by omega) (fun h => wp_some (fun s b => by rw [if_neg (by omega)])) (fun h => ?_)
    refine wp_inb (by omega) (by omega) ?_
    refine wp_call (Q := fun z => z = bz (PO n e t x)) ?_ (fun z hz => ?_)
    · unfold PO
      refine wp_lt (by omega) (by omega) (fun h' => wp_some (by rw [bz_n (by omega)])) (fun h1 => ?_)
      refine wp_lt (by omega) (by omega) (fun h' => wp_some (by rw [bz_n (by omega)])) (fun h2 => ?_)
      rw [i_sub h1]
      exact wp_lt (by omega) (by omega) (fun h' => wp_some (by rw [bz_n (by omega)])) (fun h3 => wp_some (by rw [bz_d (by omega)]))
    subst hz
    refine wp_inb (by omega) (by omega) (wp_pos (bz_01 _) (wp_let (wp_let ?_)))
    rw [i_cl (x := x) (by omega), i_s]
    refine wp_mono (ih (x + 1) _ (by omega) (by omega) (by rw [si_k (by decide)]; exact h5)) (fun N hN s b => ?_)
    rw [hN s b, si2]
    by_cases hc : s = t ∧ b = x
    · rw [if_neg (show ¬ (s = t ∧ x + 1 ≤ b ∧ b ≤ 24) from by omega), if_pos hc, if_pos (show s = t ∧ x ≤ b ∧ b ≤ 24 from by omega), hc.2]
    · by_cases hd : s = t ∧ x ≤ b ∧ b ≤ 24
      · rw [if_pos hd, if_pos (show s = t ∧ x + 1 ≤ b ∧ b ≤ 24 from by omega)]
      · rw [if_neg hd, if_neg (show ¬ (s = t ∧ x + 1 ≤ b ∧ b ≤ 24) from by omega), if_neg hc]
theorem r_one15 {o n e : Nat} (hn : n ≤ 24) (he : e ≤ n) : ∀ (m t : Nat) (M : am_M), t ≤ n + 1 → n + 2 ≤ m + t → M.1 5 o 0 29 = Int32.ofNat n → (∀ s b, s < t → b ≤ 24 → M.1 728 o s b = bz (PO n e s b)) → wp (l_X5_seeOneHeap_15 o (Int32.ofNat e) m (Int32.ofNat t) M) (fun N => ∀ s b, s ≤ n → b ≤ 24 → N.1 728 o s b = bz (PO n e s b)) := by
  intro m
  induction m with
  | zero => intro t M h1 h2; omega
  | succ m ih =>
    intro t M ht hm h5 hC
    rw [l_X5_seeOneHeap_15, h5]
    refine wp_lt (by omega) (by omega) (fun h => wp_some (fun s b hs hb => hC s b (by omega) hb)) (fun h => ?_)
    refine wp_call (wp_km (r_one25 hn he h 1000 0 M (by omega) (by omega) h5) (fr_l_X5_seeOneHeap_25 _ _ _)) (fun N hN => wp_let ?_)
    obtain ⟨hN, hk⟩ := hN
    rw [i_s]
    refine ih (t + 1) N (by omega) (by omega) ((hk.i _ _ _ _ rfl).trans h5) (fun s b hs hb => ?_)
    rw [hN s b]
    by_cases hc : s = t ∧ 0 ≤ b ∧ b ≤ 24
    · rw [if_pos hc, hc.1]
    · rw [if_neg hc]
      exact hC s b (by omega) hb
theorem r_seeOne {M : am_M} {o : Nat} {D : dd} (w : WH D) (h : RH M o D) : wp (f_X5_seeOneHeap M o) (fun N => RM N o (dn D) (PO (dn D) (de D))) := by
  have h5 := w.2.2.2.2
  unfold f_X5_seeOneHeap
  refine wp_be (r_all w h) (wp_let (wp_be (r_allA w (h.cong (by rw [si_j (by decide)]) (fun i => by rw [si_k (by decide)]) (fun i => by rw [si_k (by decide)]) (fun i => by rw [si_k (by decide)]))) ?_))
  refine wp_call (wp_km (r_one15 h5 de_le 1000 0 _ (by omega) (by omega) (by rw [am_si_self]) (fun s b hs => absurd hs (Nat.not_lt_zero s))) (fr_l_X5_seeOneHeap_15 _ _ _)) (fun N hN => wp_some ⟨?_, hN.1⟩)
  rw [hN.2.i 5 o 0 29 rfl, am_si_self]
def PB (P : Nat → Nat → Bool) (n e t a : Nat) : Bool := decide (a ≤ e) && P (n - t) (e - a)
theorem r_back21 {o n e t : Nat} {P : Nat → Nat → Bool} (hn : n ≤ 24) (he : e ≤ 24) (ht : t ≤ n) : ∀ (m x : Nat) (M : am_M), x ≤ 25 → 26 ≤ m + x → RM M o n P → wp (l_X5_seeBack_21 o (Int32.ofNat e) (Int32.ofNat t) m (Int32.ofNat x) M) (fun N => ∀ s b, N.1 735 o s b = if s = t ∧ x ≤ b ∧ b ≤ 24 then bz (PB P n e t b) else M.1 735 o s b) := by
  intro m
  induction m with
  | zero => intro x M h1 h2; omega
  | succ m ih =>
    intro x M hx hm hR
    rw [l_X5_seeBack_21, hR.1, i_sub ht, i_cl (x := t) (by omega), i_cl (x := n - t) (by omega)]
    refine wp_lt (x := 24) (by omega) (by omega) (fun h => wp_some (fun s b => by rw [if_neg (by omega)])) (fun h => ?_)
    refine wp_inb (by omega) (by omega) ?_
    refine wp_call (Q := fun z => z = bz (PB P n e t x)) ?_ (fun z hz => ?_)
    · unfold PB
      refine wp_lt (by omega) (by omega) (fun h' => wp_some (by rw [decide_eq_false (by omega)]; rfl)) (fun h1 => ?_)
      rw [i_sub h1, i_cl (x := e - x) (by omega), hR.2 (n - t) (e - x) (by omega) (by omega), decide_eq_true h1, Bool.true_and]
      exact wp_inb (by omega) (by omega) (wp_inb (by omega) (by omega) (wp_bz (fun h' => wp_some (by rw [h']; rfl)) (fun h' => wp_some (by rw [h']; rfl))))
    subst hz
    refine wp_inb (by omega) (by omega) (wp_pos (bz_01 _) (wp_let (wp_let ?_)))
    rw [i_cl (x := x) (by omega), i_s]
    refine wp_mono (ih (x + 1) _ (by omega) (by omega) ⟨by rw [si_k (by decide)]; exact hR.1, fun s b hs hb => by rw [si_k (by decide)]; exact hR.2 s b hs hb⟩) (fun N hN s b => ?_)
    rw [hN s b, si2]
    by_cases hc : s = t ∧ b = x
    · rw [if_neg (show ¬ (s = t ∧ x + 1 ≤ b ∧ b ≤ 24) from by omega), if_pos hc, if_pos (show s = t ∧ x ≤ b ∧ b ≤ 24 from by omega), hc.2]
    · by_cases hd : s = t ∧ x ≤ b ∧ b ≤ 24
      · rw [if_pos hd, if_pos (show s = t ∧ x + 1 ≤ b ∧ b ≤ 24 from by omega)]
      · rw [if_neg hd, if_neg (show ¬ (s = t ∧ x + 1 ≤ b ∧ b ≤ 24) from by omega), if_neg hc]
theorem r_back11 {o n e : Nat} {P : Nat → Nat → Bool} (hn : n ≤ 24) (he : e ≤ 24) : ∀ (m t : Nat) (M : am_M), t ≤ n + 1 → n + 2 ≤ m + t → RM M o n P → (∀ s b, s < t → b ≤ 24 → M.1 735 o s b = bz (PB P n e s b)) → wp (l_X5_seeBack_11 o (Int32.ofNat e) m (Int32.ofNat t) M) (fun N => ∀ s b, s ≤ n → b ≤ 24 → N.1 735 o s b = bz (PB P n e s b)) := by
  intro m
  induction m with
  | zero => intro t M h1 h2; omega
  | succ m ih =>
    intro t M ht hm hR hC
    rw [l_X5_seeBack_11, hR.1]
    refine wp_lt (by omega) (by omega) (fun h => wp_some (fun s b hs hb => hC s b (by omega) hb)) (fun h => ?_)
    refine wp_call (wp_km (r_back21 (P := P) hn he h 1000 0 M (by omega) (by omega) hR) (fr_l_X5_seeBack_21 _ _ _)) (fun N hN => wp_let ?_)
    obtain ⟨hN, hk⟩ := hN
    rw [i_s]
    refine ih (t + 1) N (by omega) (by omega) (hR.mv hk rfl (fun _ => rfl)) (fun s b hs hb => ?_)
    rw [hN s b]
    by_cases hc : s = t ∧ 0 ≤ b ∧ b ≤ 24
    · rw [if_pos hc, hc.1]
    · rw [if_neg hc]
      exact hC s b (by omega) hb
theorem r_back87 {o t : Nat} {p : Nat → Bool} (ht : t ≤ 24) : ∀ (m x : Nat) (M : am_M), x ≤ 25 → 26 ≤ m + x → (∀ b, b ≤ 24 → M.1 735 o t b = bz (p b)) → wp (l_X5_seeBack_87 o (Int32.ofNat t) m (Int32.ofNat x) M) (fun N => ∀ s b, N.1 728 o s b = if s = t ∧ x ≤ b ∧ b ≤ 24 then bz (p b) else M.1 728 o s b) := by
  intro m
  induction m with
  | zero => intro x M h1 h2; omega
  | succ m ih =>
    intro x M hx hm hp
    rw [l_X5_seeBack_87, i_cl (x := t) (by omega), i_cl (x := x) (by omega)]
    refine wp_lt (x := 24) (by omega) (by omega) (fun h => wp_some (fun s b => by rw [if_neg (by omega)])) (fun h => ?_)
    rw [hp x h]
    refine wp_inb (by omega) (by omega) (wp_inb (by omega) (by omega) (wp_inb (by omega) (by omega) (wp_inb (by omega) (by omega) (wp_pos (bz_01 _) (wp_let (wp_let ?_))))))
    rw [i_s]
    refine wp_mono (ih (x + 1) _ (by omega) (by omega) (fun b hb => by rw [si_k (by decide)]; exact hp b hb)) (fun N hN s b => ?_)
    rw [hN s b, si2]
    by_cases hc : s = t ∧ b = x
    · rw [if_neg (show ¬ (s = t ∧ x + 1 ≤ b ∧ b ≤ 24) from by omega), if_pos hc, if_pos (show s = t ∧ x ≤ b ∧ b ≤ 24 from by omega), hc.2]
    · by_cases hd : s = t ∧ x ≤ b ∧ b ≤ 24
      · rw [if_pos hd, if_pos (show s = t ∧ x + 1 ≤ b ∧ b ≤ 24 from by omega)]
      · rw [if_neg hd, if_neg (show ¬ (s = t ∧ x + 1 ≤ b ∧ b ≤ 24) from by omega), if_neg hc]
theorem r_back77 {o n : Nat} {P : Nat → Nat → Bool} (hn : n ≤ 24) : ∀ (m t : Nat) (M : am_M), t ≤ n + 1 → n + 2 ≤ m + t → M.1 5 o 0 29 = Int32.ofNat n → (∀ s b, s ≤ n → b ≤ 24 → M.1 735 o s b = bz (P s b)) → (∀ s b, s < t → b ≤ 24 → M.1 728 o s b = bz (P s b)) → wp (l_X5_seeBack_77 o m (Int32.ofNat t) M) (fun N => ∀ s b, s ≤ n → b ≤ 24 → N.1 728 o s b = bz (P s b)) := by
  intro m
  induction m with
  | zero => intro t M h1 h2; omega
  | succ m ih =>
    intro t M ht hm h5 hT hC
    rw [l_X5_seeBack_77, h5]
    refine wp_lt (by omega) (by omega) (fun h => wp_some (fun s b hs hb => hC s b (by omega) hb)) (fun h => ?_)
    refine wp_call (wp_km (r_back87 (p := P t) (show t ≤ 24 from by omega) 1000 0 M (by omega) (by omega) (fun b hb => hT t b h hb)) (fr_l_X5_seeBack_87 _ _ _)) (fun N hN => wp_let ?_)
    obtain ⟨hN, hk⟩ := hN
    rw [i_s]
    refine ih (t + 1) N (by omega) (by omega) ((hk.i _ _ _ _ rfl).trans h5) (fun s b hs hb => (hk.i _ _ _ _ rfl).trans (hT s b hs hb)) (fun s b hs hb => ?_)
    rw [hN s b]
    by_cases hc : s = t ∧ 0 ≤ b ∧ b ≤ 24
    · rw [if_pos hc, hc.1]
    · rw [if_neg hc]
      exact hC s b (by omega) hb
theorem r_seeBack {M : am_M} {o : Nat} {D : dd} (w : WH D) (h : RH M o D) : wp (f_X5_seeBack M o) (fun N => RM N o (dn D) (PB (DP D) (dn D) (de D))) := by
  have hn := w.2.2.2.2
  have he := de_le (D := D)
  unfold f_X5_seeBack
  refine wp_call (wp_km (r_seeHeaps w h) fr_f_X5_seeHeaps) (fun N hN => ?_)
  obtain ⟨hN, hk⟩ := hN
  refine wp_be (r_allA w (h.mv hk rfl (fun _ => rfl) (fun _ => rfl) (fun _ => rfl))) ?_
  refine wp_call (wp_km (r_back11 (P := DP D) (e := de D) hn (by omega) 1000 0 N (by omega) (by omega) hN (fun s b hs => absurd hs (Nat.not_lt_zero s))) (fr_l_X5_seeBack_11 _ _ _)) (fun N2 hN2 => ?_)
  obtain ⟨hN2, hk2⟩ := hN2
  have h5 := (hk2.i 5 o 0 29 rfl).trans hN.1
  refine wp_call (wp_km (r_back77 (P := PB (DP D) (dn D) (de D)) hn 1000 0 N2 (by omega) (by omega) h5 hN2 (fun s b hs => absurd hs (Nat.not_lt_zero s))) (fr_l_X5_seeBack_77 _ _ _)) (fun N3 hN3 => wp_some ⟨(hN3.2.i 5 o 0 29 rfl).trans h5, hN3.1⟩)
theorem bw_gt (P : Nat → Nat → Bool) (e : Nat) : ∀ (k t a : Nat), e < a → bw P e k t a = 0
  | 0, t, a, h => by rw [bw, if_neg (by omega)]
  | k + 1, t, a, h => by rw [bw, bw_gt P e k (t + 1) a h, bw_gt P e k (t + 1) (a + 1) (by omega), ite_self, ite_self]
theorem cf_rev1 (R : Nat → Nat → Bool) (n e : Nat) : ∀ (t a : Nat), t ≤ n → a ≤ e → cf (PB R n e) t a = if R (n - t) (e - a) = true then bw R e t (n - t) (e - a) else 0
  | 0, a, ht, ha => by
    rw [cf, bw]
    unfold PB
    rw [decide_eq_true ha, Bool.true_and, Nat.sub_zero]
    by_cases h0 : a = 0
    · subst h0
      rw [if_pos (show e - 0 = e from by omega)]
      simp
    · rw [if_neg (show ¬ e - a = e from by omega)]
      simp [h0]
  | t + 1, a, ht, ha => by
    rw [cf, bw, show n - (t + 1) + 1 = n - t from by omega, cf_rev1 R n e t a (by omega) ha]
    have e1 : PB R n e (t + 1) a = R (n - (t + 1)) (e - a) := by
      unfold PB
      rw [decide_eq_true ha, Bool.true_and]
    have e2 : pv (cf (PB R n e) t) a = if R (n - t) (e - a + 1) = true then bw R e t (n - t) (e - a + 1) else 0 := by
      cases a with
      | zero => rw [pv_0, bw_gt R e t (n - t) (e - 0 + 1) (by omega), ite_self]
      | succ a => rw [pv_s, cf_rev1 R n e t a (by omega) (by omega), show e - (a + 1) + 1 = e - a from by omega]
    rw [e1, e2]
theorem cf_rev (R : Nat → Nat → Bool) (n e : Nat) : cf (PB R n e) n e = cf R n e := by
  rw [cf_rev1 R n e n e (Nat.le_refl _) (Nat.le_refl _), Nat.sub_self, Nat.sub_self, ← fb R e (Nat.zero_le n)]
  show _ = 0 + cf R 0 0 * bw R e (n - 0) 0 0
  rw [Nat.zero_add, Nat.sub_zero, cf]
  cases R 0 0 <;> simp
theorem cf_mono {P Q : Nat → Nat → Bool} (h : ∀ t a, P t a = true → Q t a = true) : ∀ (t a : Nat), cf P t a ≤ cf Q t a
  | 0, a => by
    rw [cf, cf]
    cases hp : P 0 a with
    | false => simp
    | true => rw [h 0 a hp]; exact Nat.le_refl _
  | t + 1, a => by
    rw [cf, cf]
    cases hp : P (t + 1) a with
    | false => rw [if_neg (by decide)]; exact Nat.zero_le _
    | true =>
      rw [h (t + 1) a hp, if_pos rfl, if_pos rfl]
      have h1 := cf_mono h t a
      have h2 : pv (cf P t) a ≤ pv (cf Q t) a := by
        cases a with
        | zero => exact Nat.le_refl _
        | succ a => rw [pv_s, pv_s]; exact cf_mono h t a
      omega
