/-! the books that agree -/
def gg (c d : Nat → Nat) (t : Nat) : Nat := if c t = 2 then d t else c t
theorem vc_0 (v : Int64) : v = 0 ↔ vc v = 0 := by
  unfold vc
  by_cases h0 : v = 0
  · rw [if_pos h0]; exact ⟨fun _ => rfl, fun _ => h0⟩
  · rw [if_neg h0]
    refine ⟨fun z => absurd z h0, fun z => ?_⟩
    split at z <;> cases z
theorem vc_1 (v : Int64) : v = 1 ↔ vc v = 1 := by
  unfold vc
  by_cases h0 : v = 0
  · rw [if_pos h0, h0]
    exact ⟨fun z => absurd z (by decide), fun z => (nomatch z)⟩
  · rw [if_neg h0]
    by_cases h1 : v = 1
    · rw [if_pos h1]; exact ⟨fun _ => rfl, fun _ => h1⟩
    · rw [if_neg h1]; exact ⟨fun z => absurd z h1, fun z => (nomatch z)⟩
theorem i_ss (x y : Nat) : Int32.ofNat x - Int32.ofNat y - 1 = Int32.ofNat x - Int32.ofNat (y + 1) := by
  rw [← i_s, Int32.sub_eq_add_neg, Int32.sub_eq_add_neg, Int32.sub_eq_add_neg, Int32.neg_add, Int32.add_assoc, ← Int32.sub_eq_add_neg (-Int32.ofNat y)]
theorem i_ng {x y : Nat} (h : x < y) (hy : y ≤ 24) : Int32.ofNat x - Int32.ofNat y < 0 := by
  have e : ∀ k : Nat, k < 25 → 0 < k → -(Int32.ofNat k) < 0 := by decide
  rw [← Int32.neg_sub, i_sub (by omega)]
  exact e _ (by omega) (by omega)
theorem c_cx (M : am_M) {u x s : Nat} (hu : u ≤ 24) (hx : x ≤ 24) (hs : s ≤ 24) : f_X4_choose M (Int32.ofNat u) (Int32.ofNat x - Int32.ofNat s) = some (Int64.ofNat (cx u x s)) := by
  by_cases h : s ≤ x
  · rw [i_sub h, c_choose M hu (by omega)]
    unfold cx
    rw [if_pos h]
  · unfold f_X4_choose cx
    rw [if_pos (i_ng (by omega) hs), if_neg h]
    rfl
theorem sc_1 {c : Nat} : sc c = 1 ↔ c = 1 := by
  unfold sc
  by_cases h0 : c = 0
  · rw [if_pos h0]; exact ⟨fun z => absurd z (by decide), fun z => absurd z (by omega)⟩
  · rw [if_neg h0]
    by_cases h1 : c = 1
    · rw [if_pos h1]; exact ⟨fun _ => h1, fun _ => rfl⟩
    · rw [if_neg h1]; exact ⟨fun z => absurd z (by decide), fun z => absurd z h1⟩
theorem gg_le {M : am_M} {p q n : Nat} {c d : Nat → Nat} (h1 : sR3 M p n c) (h2 : sR3 M q n d) {t : Nat} (ht : t < n) : gg c d t ≤ 2 := by
  have e1 := vc_le (M.2 303 p 0 t)
  have e2 := vc_le (M.2 303 q 0 t)
  rw [(h1.2.2.2 t ht).1] at e1
  rw [(h2.2.2.2 t ht).1] at e2
  unfold gg
  split
  · exact e2
  · exact e1
theorem c_agr73 {M : am_M} {p q n e S A : Nat} {c d : Nat → Nat} (h1 : sR3 M p n c) (h2 : sR3 M q n d) (he : e ≤ n) {a3 : Int64} {a6 : Int32} : ∀ (m k : Nat), S + k ≤ e → e + 1 ≤ m + (S + k) → wp (l_X4_agreeing_73 M p q a3 a6 (Int32.ofNat e) m (Int32.ofNat (S + k)) (Int32.ofNat (uk (gg c d) S k)) (Int32.ofNat A - Int32.ofNat (sk (gg c d) S k))) (fun z => z = (Int32.ofNat e, Int32.ofNat (uk (gg c d) S (e - S)), Int32.ofNat A - Int32.ofNat (sk (gg c d) S (e - S)))) := by
  intro m
  have hn := h1.1
  induction m with
  | zero => intro k h1 h2; omega
  | succ m ih =>
    intro k hk hm
    rw [l_X4_agreeing_73]
    refine wp_le (by omega) (by omega) (fun e' => wp_some ?_) (fun hlt => ?_)
    · have e2 : e = S + k := by omega
      rw [e2, Nat.add_sub_cancel_left]
    have s1 := c_slipAt h1.2.1 h1.1 (show S + k < n from by omega)
    have s2 := c_slipAt h2.2.1 h2.1 (show S + k < n from by omega)
    have v1 := (h1.2.2.2 (S + k) (by omega)).1
    have v2 := (h2.2.2.2 (S + k) (by omega)).1
    have l1 := vc_le (M.2 303 p 0 (S + k))
    have hl := gg_le h1 h2 (show S + k < n from by omega)
    rw [v1] at s1 l1
    rw [v2] at s2
    refine wp_be s1 (wp_call (Q := fun z => z = sc (gg c d (S + k))) (wp_ite (fun z => wp_be s2 (wp_some ?_)) (fun z => wp_be s1 (wp_some ?_))) (fun z hz => ?_))
    · unfold gg
      rw [if_pos ((sc_m l1).1 z)]
    · unfold gg
      rw [if_neg (fun z' => z ((sc_m l1).2 z'))]
    · subst hz
      refine wp_call (Q := fun z => z = Int32.ofNat (if gg c d (S + k) = 2 then 1 else 0)) (wp_ite (fun z => wp_some (by rw [if_pos ((sc_m hl).1 z)]; rfl)) (fun z => wp_some (by rw [if_neg (fun z' => z ((sc_m hl).2 z'))]; rfl))) (fun z hz => wp_let ?_)
      subst hz
      refine wp_call (Q := fun z => z = if gg c d (S + k) = 1 then 1 else 0) (wp_ite (fun z => wp_some (by rw [if_pos (sc_1.1 z)])) (fun z => wp_some (by rw [if_neg (fun z' => z (sc_1.2 z'))]))) (fun z hz => wp_let (wp_let ?_))
      subst hz
      have := ih (k + 1) (by omega) (by omega)
      rw [show uk (gg c d) S (k + 1) = uk (gg c d) S k + (if gg c d (S + k) = 2 then 1 else 0) from rfl, show sk (gg c d) S (k + 1) = sk (gg c d) S k + (if gg c d (S + k) = 1 then 1 else 0) from rfl] at this
      by_cases e1 : gg c d (S + k) = 1
      · rw [if_pos e1] at this
        rw [i_add, if_pos e1, i_ss, i_s]
        exact this
      · rw [if_neg e1] at this
        rw [i_add, if_neg e1, Int32.sub_zero, i_s]
        exact this
theorem c_agr8 {M : am_M} {p q : Nat} {c d : Nat → Nat} {D : dd} (w : WF D) (h : DR M 0 D) (h1 : sR3 M p (dn D) c) (h2 : sR3 M q (dn D) d) (hg : ∀ t, gg c d t ≤ 2) : ∀ (m j : Nat), j ≤ dh D → dh D + 1 ≤ m + j → wp (l_X4_agreeing_8 M p q m (Int64.ofNat (bf (DP D) (gg c d) (SS D j) (EE D j))) (Int32.ofNat (SS D j)) (Int32.ofNat j)) (fun y => y = Int64.ofNat (bf (DP D) (gg c d) (dn D) (de D))) := by
  intro m
  have hH := h.HO w
  have h4 := w.1
  have h5 := w.2.2.2.2.1
  induction m with
  | zero => intro j h1 h2; omega
  | succ m ih =>
    intro j hj hm
    rw [l_X4_agreeing_8, h.1, i_cl (x := j) (by omega)]
    refine wp_le (by omega) (by omega) (fun e => wp_some ?_) (fun hlt => ?_)
    · have e : j = dh D := by omega
      subst e
      rfl
    obtain ⟨a1, a2, a3, a4⟩ := hH.2 j hlt
    have b1 := SS_le w (show j + 1 ≤ dh D from hlt)
    have b2 := SS_s D j
    have b3 : SS D (j + 1) ≤ dn D := sm_le (f := fun i => dA D (dO D i) + dB D (dO D i)) hlt
    rw [a1]
    refine wp_inb (by omega) (by omega) (wp_let ?_)
    rw [i_cl (x := dO D j) (by omega), a3, a4]
    refine wp_inb (by omega) (by omega) (wp_inb (by omega) (by omega) (wp_let ?_))
    rw [i_add, i_add, show SS D j + dA D (dO D j) + dB D (dO D j) = SS D (j + 1) from by omega]
    refine wp_inb (by omega) (by omega) (wp_let ?_)
    have c1 := c_agr73 (S := SS D j) (e := SS D (j + 1)) (A := dA D (dO D j)) h1 h2 b3 (a3 := Int64.ofNat (bf (DP D) (gg c d) (SS D j) (EE D j))) (a6 := Int32.ofNat j) 1000 0 (by omega) (by omega)
    rw [show Int32.ofNat (dA D (dO D j)) - Int32.ofNat (sk (gg c d) (SS D j) 0) = Int32.ofNat (dA D (dO D j)) from Int32.sub_zero _] at c1
    refine wp_call c1 (fun z hz => ?_)
    subst hz
    have lu := us_le (gg c d) (SS D j) (SS D (j + 1) - SS D j)
    refine wp_be (c_cx M (by omega) (by omega) (by omega)) (wp_let (wp_let ?_))
    rw [l_mul, i_s]
    have ee : bf (DP D) (gg c d) (SS D (j + 1)) (EE D (j + 1)) = bf (DP D) (gg c d) (SS D j) (EE D j) * cx (uk (gg c d) (SS D j) (SS D (j + 1) - SS D j)) (dA D (dO D j)) (sk (gg c d) (SS D j) (SS D (j + 1) - SS D j)) := by
      rw [b2, Nat.add_sub_cancel_left]
      exact bf_block (A := fun i => dA D (dO D i)) (B := fun i => dB D (dO D i)) (h := dh D) hg hlt (dA D (dO D j) + dB D (dO D j)) (dA D (dO D j)) (Nat.le_refl _) (Nat.le_refl _) (Nat.le_refl _)
    rw [← ee]
    exact ih (j + 1) hlt (by omega)
/-- the reference's cells -/
theorem r_bk44 {n t p q : Nat} {c d : Nat → Nat} {P : Nat → Nat → Bool} (hp : p < 8) (hq : q < 8) (hn : n ≤ 24) (ht : t ≤ n) : ∀ (m x : Nat) (M : am_M), x ≤ t + 1 → t + 2 ≤ m + x → (∀ a, a ≤ t → M.1 728 0 t a = bz (P t a)) → (∀ j, j < n → vc (M.2 703 0 p j) = c j) → (∀ j, j < n → vc (M.2 703 0 q j) = d j) → (∀ b, b < t → M.2 730 0 (t - 1) b = Int64.ofNat (bf P (gg c d) (t - 1) b)) → wp (l_X5_books_44 0 (Int32.ofNat p) (Int32.ofNat q) (Int32.ofNat t) m (Int32.ofNat x) M) (fun N => ∀ s b, N.2 730 0 s b = if s = t ∧ x ≤ b ∧ b ≤ t then Int64.ofNat (bf P (gg c d) t b) else M.2 730 0 s b) := by
  intro m
  induction m with
  | zero => intro x M h1 h2; omega
  | succ m ih =>
    intro x M hx hm h7 hc hd hb
    rw [l_X5_books_44]
    refine wp_lt (by omega) (by omega) (fun h => wp_some (fun s b => by rw [if_neg (by omega)])) (fun h1 => ?_)
    rw [i_cl (x := t) (by omega), i_cl (x := x) (by omega), i_cl (x := p) (by omega), i_cl (x := q) (by omega)]
    refine wp_inb (by omega) (by omega) (wp_call (Q := fun z => z = Int64.ofNat (if t = 0 then 1 else 0)) (wp_ieq (y := 0) (by omega) (by omega) (fun z => wp_some (by rw [if_pos z]; rfl)) (fun z => wp_some (by rw [if_neg z]; rfl))) (fun z hz => ?_))
    subst hz
    refine wp_inb (by omega) (by omega) (wp_let ?_)
    refine wp_call (Q := fun N => N.1 = M.1 ∧ (∀ k o i j, k ≠ 730 → N.2 k o i j = M.2 k o i j) ∧ (∀ s b, N.2 730 0 s b = if s = t ∧ b = x then Int64.ofNat (if t = 0 then 1 else (if gg c d (t - 1) = 0 then 0 else pv (bf P (gg c d) (t - 1)) x) + (if gg c d (t - 1) = 1 then 0 else bf P (gg c d) (t - 1) x)) else M.2 730 0 s b)) ?_ (fun N hN => ?_)
    · refine wp_le (y := 0) (by omega) (by omega) (fun h0 => wp_some ⟨rfl, fun k o i j hk => sl_k hk, fun s b => ?_⟩) (fun h0 => ?_)
      · have e : t = 0 := by omega
        rw [sl2, if_pos e, if_pos e]
      · obtain ⟨t', rfl⟩ : ∃ t', t = t' + 1 := ⟨t - 1, by omega⟩
        rw [i_m, i_cl (x := t') (by omega)]
        have c1 := hc t' (by omega)
        have d1 := hd t' (by omega)
        rw [show t' + 1 - 1 = t' from rfl] at hb
        refine wp_inb hp (by omega) (wp_inb (by omega) (by omega) (wp_be (vc_in _ _) ?_))
        rw [sl_k (show (703 : Nat) ≠ 730 from by decide), sl_k (show (703 : Nat) ≠ 730 from by decide), c1]
        refine wp_call (Q := fun z => vc z = gg c d t') (wp_bz (fun z => wp_inb hq (by omega) (wp_inb (by omega) (by omega) (wp_some ?_))) (fun z => wp_inb hp (by omega) (wp_inb (by omega) (by omega) (wp_some ?_)))) (fun z hz => ?_)
        · rw [decide_eq_false_iff_not] at z
          unfold gg
          rw [if_pos (by omega)]
          exact d1
        · rw [decide_eq_true_eq] at z
          unfold gg
          rw [if_neg z]
          exact c1
        · have k0 : lg_cmp z (0 : Int64) = 0 ↔ gg c d t' = 0 := by rw [lg_cmp_eq, vc_0, hz]
          have k1 : lg_cmp z (1 : Int64) = 0 ↔ gg c d t' = 1 := by rw [lg_cmp_eq, vc_1, hz]
          refine wp_inb (by omega) (by omega) (wp_inb (by omega) (by omega) (wp_call (Q := fun z => z = Int64.ofNat (if gg c d t' = 0 then 0 else pv (bf P (gg c d) t') x)) ?_ (fun z32 hz32 => ?_)))
          · refine wp_le (y := 0) (by omega) (by omega) (fun hx0 => wp_some ?_) (fun hx0 => wp_ite (fun e => wp_some ?_) (fun e => ?_))
            · have e : x = 0 := by omega
              rw [e, show pv (bf P (gg c d) t') 0 = 0 from rfl, ite_self]
              rfl
            · rw [if_pos (k0.1 e)]
              rfl
            · obtain ⟨x', rfl⟩ : ∃ x', x = x' + 1 := ⟨x - 1, by omega⟩
              rw [i_m, i_cl (x := x') (by omega)]
              refine wp_inb (by omega) (by omega) (wp_inb (by omega) (by omega) (wp_some ?_))
              rw [if_neg (fun z' => e (k0.2 z')), pv_s, sl2, if_neg (by omega)]
              exact hb x' (by omega)
          · subst hz32
            refine wp_inb (by omega) (by omega) (wp_let ?_)
            refine wp_inb (by omega) (by omega) (wp_inb (by omega) (by omega) (wp_call (Q := fun z => z = Int64.ofNat (if gg c d t' = 1 then 0 else bf P (gg c d) t' x)) ?_ (fun z43 hz43 => ?_)))
            · refine wp_le (by omega) (by omega) (fun hx0 => wp_some ?_) (fun hx0 => wp_ite (fun e => wp_some ?_) (fun e => ?_))
              · rw [bf_gt P (gg c d) (show t' < x from by omega), ite_self]
                rfl
              · rw [if_pos (k1.1 e)]
                rfl
              · refine wp_inb (by omega) (by omega) (wp_inb (by omega) (by omega) (wp_some ?_))
                rw [if_neg (fun z' => e (k1.2 z')), sl2, if_neg (by omega), sl2, if_neg (by omega)]
                exact hb x (by omega)
            · subst hz43
              refine wp_inb (by omega) (by omega) (wp_let (wp_some ⟨rfl, fun k o i j hk => ?_, fun s b => ?_⟩))
              · rw [sl_k hk, sl_k hk, sl_k hk]
              · by_cases hs : s = t' + 1 ∧ b = x
                · rw [if_pos hs, if_neg (Nat.succ_ne_zero t'), hs.1, hs.2, sl2, if_pos ⟨rfl, rfl⟩, sl2, if_pos ⟨rfl, rfl⟩, sl2, if_pos ⟨rfl, rfl⟩, if_neg (Nat.succ_ne_zero t'), l_add, l_add, Nat.zero_add]
                  rfl
                · rw [if_neg hs, sl2, if_neg hs, sl2, if_neg hs, sl2, if_neg hs]
    · obtain ⟨n1, n2, n3⟩ := hN
      refine wp_inb (by omega) (by omega) (wp_inb (by omega) (by omega) (wp_inb (by omega) (by omega) ?_))
      rw [n1, h7 x (by omega)]
      refine wp_call (Q := fun z => z = Int64.ofNat (bf P (gg c d) t x)) (wp_bz (fun hP => wp_some ?_) (fun hP => wp_inb (by omega) (by omega) (wp_inb (by omega) (by omega) (wp_some ?_)))) (fun z hz => ?_)
      · rw [bf_no hP]
        rfl
      · rw [n3, if_pos ⟨rfl, rfl⟩]
        cases t with
        | zero =>
          have e : x = 0 := by omega
          subst e
          rw [if_pos rfl, bf, hP]
          rfl
        | succ t' =>
          rw [if_neg (Nat.succ_ne_zero t'), bf, if_pos hP]
          rfl
      · subst hz
        refine wp_inb (by omega) (by omega) (wp_let (wp_let ?_))
        rw [i_s]
        refine wp_mono (ih (x + 1) _ (by omega) (by omega) (fun a ha => by rw [sl_i, n1]; exact h7 a ha) (fun j hj => by rw [sl_k (show (703 : Nat) ≠ 730 from by decide), n2 _ _ _ _ (show (703 : Nat) ≠ 730 from by decide)]; exact hc j hj) (fun j hj => by rw [sl_k (show (703 : Nat) ≠ 730 from by decide), n2 _ _ _ _ (show (703 : Nat) ≠ 730 from by decide)]; exact hd j hj) (fun b hb' => ?_)) (fun N' hN s b => ?_)
        · rw [sl2, if_neg (by omega), n3, if_neg (by omega)]
          exact hb b hb'
        · rw [hN s b, sl2]
          by_cases hc : s = t ∧ b = x
          · rw [if_neg (show ¬ (s = t ∧ x + 1 ≤ b ∧ b ≤ t) from by omega), if_pos hc, if_pos (show s = t ∧ x ≤ b ∧ b ≤ t from by omega), hc.2]
          · rw [if_neg hc, n3, if_neg hc]
            by_cases hd : s = t ∧ x ≤ b ∧ b ≤ t
            · rw [if_pos hd, if_pos (show s = t ∧ x + 1 ≤ b ∧ b ≤ t from by omega)]
            · rw [if_neg hd, if_neg (show ¬ (s = t ∧ x + 1 ≤ b ∧ b ≤ t) from by omega)]
theorem r_bk32 {n p q : Nat} {c d : Nat → Nat} {P : Nat → Nat → Bool} (hp : p < 8) (hq : q < 8) (hn : n ≤ 24) : ∀ (m t : Nat) (M : am_M), t ≤ n + 1 → n + 2 ≤ m + t → RM M 0 n P → (∀ j, j < n → vc (M.2 703 0 p j) = c j) → (∀ j, j < n → vc (M.2 703 0 q j) = d j) → (∀ s b, s < t → b ≤ s → M.2 730 0 s b = Int64.ofNat (bf P (gg c d) s b)) → wp (l_X5_books_32 0 (Int32.ofNat p) (Int32.ofNat q) m (Int32.ofNat t) M) (fun N => ∀ s b, s ≤ n → b ≤ s → N.2 730 0 s b = Int64.ofNat (bf P (gg c d) s b)) := by
  intro m
  induction m with
  | zero => intro t M h1 h2; omega
  | succ m ih =>
    intro t M ht hm hR hc hd hC
    rw [l_X5_books_32, hR.1]
    refine wp_lt (by omega) (by omega) (fun h => wp_some (fun s b hs hb => hC s b (by omega) hb)) (fun h => ?_)
    refine wp_call (wp_km (r_bk44 (n := n) (P := P) hp hq hn (by omega) 1000 0 M (by omega) (by omega) (fun a ha => hR.2 t a (by omega) (by omega)) hc hd (fun b hb => hC (t - 1) b (by omega) (by omega))) (fr_l_X5_books_44 _ _ _)) (fun N hN => wp_let ?_)
    obtain ⟨hN, hk⟩ := hN
    rw [i_s]
    refine ih (t + 1) N (by omega) (by omega) (hR.mv hk rfl (fun _ => rfl)) (fun j hj => by rw [hk.l _ _ _ _ rfl]; exact hc j hj) (fun j hj => by rw [hk.l _ _ _ _ rfl]; exact hd j hj) (fun s b hs hb => ?_)
    rw [hN s b]
    by_cases hc : s = t ∧ 0 ≤ b ∧ b ≤ t
    · rw [if_pos hc, hc.1]
    · rw [if_neg hc]
      exact hC s b (by omega) hb
theorem gg_ex {M : am_M} {p q n : Nat} {c d : Nat → Nat} (h1 : sR3 M p n c) (h2 : sR3 M q n d) : ∃ c' d', sR3 M p n c' ∧ sR3 M q n d' ∧ ∀ t, gg c' d' t ≤ 2 := by
  refine ⟨fun t => if t < n then c t else 0, fun t => if t < n then d t else 0, ⟨h1.1, h1.2.1, h1.2.2.1, fun j hj => ?_⟩, ⟨h2.1, h2.2.1, h2.2.2.1, fun j hj => ?_⟩, fun t => ?_⟩
  · dsimp only
    rw [if_pos hj]
    exact h1.2.2.2 j hj
  · dsimp only
    rw [if_pos hj]
    exact h2.2.2.2 j hj
  · have e : gg (fun t => if t < n then c t else 0) (fun t => if t < n then d t else 0) t = if t < n then gg c d t else 0 := by
      unfold gg
      by_cases ht : t < n <;> simp [ht]
    rw [e]
    split
    · next ht => exact gg_le h1 h2 ht
    · decide
theorem k_books : ok_books GT := by
  intro tr b M x1 x2 h
  refine books_in h (F4 := fun r2 => (if r2 = 0 then if am_inb x1 8 = true then if am_inb x2 8 = true then (f_X4_firstUnlike M x1.toNatClampNeg x2.toNatClampNeg).bind (fun r6 => (if r6 = (-1 : Int32) then if am_inb x1 8 = true then if am_inb x2 8 = true then (f_X4_agreeing M x1.toNatClampNeg x2.toNatClampNeg).bind (fun r10 => some (r10, M)) else none else none else some ((0 : Int32), M))) else none else none else (f_X4_refuse M r2).bind (fun r13 => some (r13.1, r13.2)))) (F5 := fun _ r2 => am_let r2.1 (fun v3 => (if v3 = 0 then (f_X5_unlikeAt r2.2 0 x1 x2).bind (fun r5 => (if r5 = (-1 : Int32) then (f_X5_seeHeaps r2.2 0).bind (fun r7 => (l_X5_books_32 0 x1 x2 1000 (0 : Int32) r7).bind (fun z71 => if am_inb (z71.1 5 0 0 29) 25 = true then (f_X5_allA z71 0).bind (fun r76 => if am_inb r76 25 = true then some ((z71.2 730 0 (z71.1 5 0 0 29).toNatClampNeg r76.toNatClampNeg).toInt32, z71) else none) else none)) else some ((0 : Int32), r2.2))) else some (v3, r2.2)))) (fun v hv _ => if_neg hv) (fun N r hr => if_neg hr) (f_X4_books M x1 x2) (fun N => f_X5_books N 0 x1 x2) rfl (fun N => rfl) ?_
  intro p q c d D hp hq e1 e2 w hD hR h1 h2 eb eN
  obtain ⟨c, d, h1, h2, hg⟩ := gg_ex h1 h2
  have hn := h1.1
  have hn4 := w.2.2.2.2.1
  have hde : de D ≤ dn D := EE_le D (dh D)
  subst e1
  subst e2
  have hlow := wp_is (c_unlike2 h1 h2 1000 0 (by omega) (by omega))
  have hlow5 := wp_is (r_unlike2 hp hq h1 h2 1000 0 (by omega) (by omega))
  cases hf : fu c d (dn D) 1000 0 with
  | none =>
    rw [hf] at hlow hlow5
    have hB : wp (f_X5_books M 0 (Int32.ofNat p) (Int32.ofNat q)) (fun y => y.1 = (Int64.ofNat (bf (DP D) (gg c d) (dn D) (de D))).toInt32 ∧ keeps [(5, some 0, some 29), (728, some 0, none), (730, some 0, none)] M y.2) := by
      unfold f_X5_books f_X5_unlikeAt
      refine wp_be (eN M rfl rfl) (wp_let (wp_pos rfl ?_))
      refine wp_be hlow5 (wp_pos rfl (wp_call (wp_km (r_seeHeaps w.H hR.H) fr_f_X5_seeHeaps) (fun N hN => ?_)))
      obtain ⟨hN, hk⟩ := hN
      refine wp_call (wp_km (r_bk32 (c := c) (d := d) hp hq hn4 1000 0 N (by omega) (by omega) hN (fun j hj => by rw [hk.l _ _ _ _ rfl]; exact (h1.2.2.2 j hj).2) (fun j hj => by rw [hk.l _ _ _ _ rfl]; exact (h2.2.2.2 j hj).2) (fun s b hs => absurd hs (Nat.not_lt_zero s))) (fr_l_X5_books_32 _ _ _)) (fun N' hN' => ?_)
      obtain ⟨hC, hk'⟩ := hN'
      have hR' := hN.mv hk' rfl (fun _ => rfl)
      have hH' : RH N' 0 D := (hR.H.mv hk rfl (fun _ => rfl) (fun _ => rfl) (fun _ => rfl)).mv hk' rfl (fun _ => rfl) (fun _ => rfl) (fun _ => rfl)
      rw [hR'.1, i_cl (x := dn D) (by omega)]
      refine wp_inb (by omega) (by omega) (wp_be (r_allA w.H hH') ?_)
      rw [i_cl (x := de D) (by omega)]
      refine wp_inb (by omega) (by omega) (wp_some ⟨?_, ?_⟩)
      · dsimp only
        rw [hC _ _ (Nat.le_refl _) hde]
      · exact (hk.mono rfl).trans (hk'.mono rfl)
    obtain ⟨z, z1, z2, z3⟩ := hB
    refine ⟨((Int64.ofNat (bf (DP D) (gg c d) (dn D) (de D))).toInt32, M), z, wp_is ?_, z1, z2.symm, h.ag z3 rfl⟩
    unfold f_X4_books f_X4_firstUnlike f_X4_agreeing
    rw [i_cl (x := p) (by omega), i_cl (x := q) (by omega)]
    refine wp_be eb (wp_pos rfl (wp_inb hp (by omega) (wp_inb hq (by omega) ?_)))
    have h41 := w.1
    have := c_agr8 w hD h1 h2 hg 1000 0 (by omega) (by omega)
    rw [show bf (DP D) (gg c d) (SS D 0) (EE D 0) = 1 from by
      show bf (DP D) (gg c d) 0 0 = 1
      rw [bf, DP_0]
      rfl] at this
    exact wp_be hlow (wp_pos rfl (wp_inb hp (by omega) (wp_inb hq (by omega) (wp_call (Q := fun y => y = (Int64.ofNat (bf (DP D) (gg c d) (dn D) (de D))).toInt32) (wp_call this (fun y hy => wp_some (by rw [hy]))) (fun y hy => wp_some (by rw [hy]))))))
  | some i =>
    rw [hf] at hlow hlow5
    have hne : ¬ enc (some i) = (-1 : Int32) := enc_1 (by have := fu_lt hf; omega)
    refine ⟨(0, M), (0, M), wp_is ?_, wp_is ?_, rfl, h⟩
    · unfold f_X4_books f_X4_firstUnlike
      rw [i_cl (x := p) (by omega), i_cl (x := q) (by omega)]
      refine wp_be eb (wp_pos rfl (wp_inb hp (by omega) (wp_inb hq (by omega) ?_)))
      exact wp_be hlow (wp_neg hne (wp_some rfl))
    · unfold f_X5_books f_X5_unlikeAt
      refine wp_be (eN M rfl rfl) (wp_let (wp_pos rfl ?_))
      exact wp_be hlow5 (wp_neg hne (wp_some rfl))
