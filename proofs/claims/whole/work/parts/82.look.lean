/-! the reference's looking, the numbers, the words -/
theorem r_look0 {z : Nat} {c : Nat → Nat} : ∀ (n i : Nat) (M : am_M), TPr M z c → i ≤ z → z + 1 ≤ n + i → M.1 5 0 0 21 = Int32.ofNat i → wp (l_X5_look_0 0 n M) (fun N => N.1 5 0 0 21 = Int32.ofNat (fr z c i)) := by
  intro n
  induction n with
  | zero => intro i M h1 h2 h3; omega
  | succ n ih =>
    intro i M hT hi hn h0
    have hz := hT.1
    rw [l_X5_look_0, h0, hT.2.1, i_cl (x := i) (by omega), fr_eq]
    refine wp_le (by omega) (by omega) (fun e => wp_some ?_) (fun hlt => ?_)
    · rw [if_neg (by omega)]; exact h0
    rw [(hT.2.2 i hlt).1]
    have := (hT.2.2 i hlt).2
    refine wp_inb (by omega) (by omega) (wp_ieq (y := 32) (by omega) (by omega) (fun e => wp_let ?_) (fun e => wp_some ?_))
    · rw [if_pos ⟨hlt, e⟩, i_s]
      exact ih (i + 1) _ (hT.mv ((keeps.rf [(5, some 0, some 21)] M).si rfl) rfl (fun _ => rfl)) (by omega) (by omega) (by rw [am_si_self])
    · rw [if_neg (fun h => e h.2)]; exact h0
theorem r_look90 {z : Nat} {c : Nat → Nat} : ∀ (n i : Nat) (M : am_M), TPr M z c → i ≤ z → z + 1 ≤ n + i → M.1 5 0 0 21 = Int32.ofNat i → wp (l_X5_look_90 0 n M) (fun N => N.1 5 0 0 21 = Int32.ofNat (rn z c 1 i)) := by
  intro n
  induction n with
  | zero => intro i M h1 h2 h3; omega
  | succ n ih =>
    intro i M hT hi hn h0
    have hz := hT.1
    rw [l_X5_look_90, h0, hT.2.1, i_cl (x := i) (by omega), rn_eq]
    refine wp_le (by omega) (by omega) (fun e => wp_some ?_) (fun hlt => ?_)
    · rw [if_neg (by omega)]; exact h0
    rw [(hT.2.2 i hlt).1]
    have h5 := (hT.2.2 i hlt).2
    refine wp_inb (by omega) (by omega) (wp_be (r_let M h5) (wp_bz (fun e => wp_some ?_) (fun e => wp_let ?_)))
    · rw [decide_eq_false_iff_not] at e
      rw [if_neg (fun h => e h.2)]; exact h0
    · rw [decide_eq_true_eq] at e
      rw [if_pos ⟨hlt, e⟩, i_s]
      exact ih (i + 1) _ (hT.mv ((keeps.rf [(5, some 0, some 21)] M).si rfl) rfl (fun _ => rfl)) (by omega) (by omega) (by rw [am_si_self])
theorem fg_s {c : Nat → Nat} {f i : Nat} (h : f ≤ i) (h1 : tk (c f) = 2) (h2 : tk (c i) = 2) : fg c f (i + 1) = if 2 ≤ i - f then 100000 else fg c f i * 10 + c i - 48 := by
  have a1 := tk_2 h1
  have a2 := tk_2 h2
  unfold fg
  by_cases e0 : i = f
  · subst e0
    rw [if_neg (by omega), if_pos rfl, if_neg (by omega), if_pos rfl]
    omega
  · by_cases e1 : i = f + 1
    · subst e1
      rw [if_neg (by omega), if_neg (by omega), if_pos (by omega), if_neg (by omega), if_neg (by omega), if_pos rfl]
      omega
    · rw [if_neg (by omega), if_neg (by omega), if_neg (by omega), if_pos (by omega)]
theorem r_look149 {z f : Nat} {c : Nat → Nat} (h1 : f < z) (hf2 : tk (c f) = 2) : ∀ (n i : Nat) (M : am_M), TPr M z c → f ≤ i → i ≤ z → (∀ j, f ≤ j → j < i → tk (c j) = 2) → z + 1 ≤ n + i → M.1 5 0 0 23 = Int32.ofNat f → M.1 5 0 0 21 = Int32.ofNat i → M.1 5 0 0 24 = Int32.ofNat (fg c f i) → wp (l_X5_look_149 0 n M) (fun N => N.1 5 0 0 21 = Int32.ofNat (rn z c 2 i) ∧ N.1 5 0 0 24 = Int32.ofNat (fg c f (rn z c 2 i))) := by
  intro n
  induction n with
  | zero => intro i M h1 h2 h3; omega
  | succ n ih =>
    intro i M hT hfi hi hd hn h23 h0 h24
    have hz := hT.1
    rw [l_X5_look_149, h0, hT.2.1, h23, h24, i_cl (x := i) (by omega), rn_eq]
    refine wp_le (by omega) (by omega) (fun e => wp_some ?_) (fun hlt => ?_)
    · rw [if_neg (by omega)]; exact ⟨h0, h24⟩
    rw [(hT.2.2 i hlt).1]
    have h5 := (hT.2.2 i hlt).2
    refine wp_inb (by omega) (by omega) (wp_be (r_dig M h5) (wp_bz (fun e => wp_some ?_) (fun e => ?_)))
    · rw [decide_eq_false_iff_not] at e
      rw [if_neg (fun h => e h.2)]; exact ⟨h0, h24⟩
    · rw [decide_eq_true_eq] at e
      have a2 := tk_2 e
      have es := fg_s hfi hf2 e
      rw [if_pos (show i < z ∧ tk (c i) = 2 from ⟨hlt, e⟩), i_sub hfi]
      refine wp_call (Q := fun y => y = Int32.ofNat (fg c f (i + 1))) (wp_le (x := 2) (by omega) (by omega) (fun h => wp_some ?_) (fun h => wp_inb (by omega) (by omega) (wp_some ?_))) (fun y hy => wp_let (wp_let ?_))
      · rw [es, if_pos h]
        rfl
      · rw [es, if_neg (by omega)]
        rw [show Int32.ofNat (fg c f i) * (10 : Int32) = Int32.ofNat (fg c f i * 10) from i_mul _ 10, i_add, show (48 : Int32) = Int32.ofNat 48 from rfl, i_sub (by omega)]
      · subst hy
        rw [si_j (by decide), h0, i_s]
        refine ih (i + 1) _ (hT.mv (((keeps.rf [(5, some 0, some 21), (5, some 0, some 24)] M).si rfl).si rfl) rfl (fun _ => rfl)) (by omega) (by omega) (fun j hj1 hj2 => ?_) (by omega) ((si_j (by decide)).trans ((si_j (by decide)).trans h23)) (by rw [am_si_self]) (by rw [si_j (by decide), am_si_self])
        by_cases ej : j = i
        · rw [ej]; exact e
        · exact hd j hj1 (by omega)
theorem r_look {M : am_M} {z p : Nat} {c : Nat → Nat} (hT : TPr M z c) (h3 : M.1 5 0 0 21 = Int32.ofNat p) (hp : p ≤ z) : wp (f_X5_look M 0) (fun N => TKr N z c (fr z c p)) := by
  have hz := hT.1
  have hf := fr_le (c := c) hp
  have hl := te_le (c := c) hf.2
  unfold f_X5_look
  refine wp_call (Q := fun N => N.1 5 0 0 21 = Int32.ofNat (fr z c p) ∧ keeps [(5, some 0, some 21)] M N) ?_ (fun N hN => ?_)
  · rw [h3, hT.2.1, i_cl (x := p) (by omega), fr_eq]
    refine wp_le (by omega) (by omega) (fun e => wp_some ⟨?_, keeps.rf _ _⟩) (fun hlt => ?_)
    · rw [if_neg (by omega)]; exact h3
    rw [(hT.2.2 p hlt).1]
    have := (hT.2.2 p hlt).2
    refine wp_inb (by omega) (by omega) (wp_ieq (y := 32) (by omega) (by omega) (fun e => wp_let ?_) (fun e => wp_some ⟨?_, keeps.rf _ _⟩))
    · have k1 : keeps [(5, some 0, some 21)] M (am_si M 5 0 0 21 (Int32.ofNat (p + 1))) := (keeps.rf _ M).si rfl
      rw [if_pos ⟨hlt, e⟩, i_s]
      exact wp_call (wp_km (r_look0 1000 (p + 1) _ (hT.mv k1 rfl (fun _ => rfl)) hlt (by omega) (by rw [am_si_self])) (fr_l_X5_look_0 _ _)) (fun N hN => wp_some ⟨hN.1, k1.trans hN.2⟩)
    · rw [if_neg (fun h => e h.2)]; exact h3
  · obtain ⟨hN, k1⟩ := hN
    have hT1 := hT.mv k1 rfl (fun _ => rfl)
    generalize fr z c p = f at hN hf hl ⊢
    refine wp_let (wp_let ?_)
    rw [hN]
    have k2 : keeps [(5, some 0, some 23), (5, some 0, some 24)] N (am_si (am_si N 5 0 0 23 (Int32.ofNat f)) 5 0 0 24 0) := ((keeps.rf _ N).si rfl).si rfl
    have t21 : (am_si (am_si N 5 0 0 23 (Int32.ofNat f)) 5 0 0 24 0).1 5 0 0 21 = Int32.ofNat f := (k2.i _ _ _ _ rfl).trans hN
    have t23 : (am_si (am_si N 5 0 0 23 (Int32.ofNat f)) 5 0 0 24 0).1 5 0 0 23 = Int32.ofNat f := by rw [si_j (by decide), am_si_self]
    have t24 : (am_si (am_si N 5 0 0 23 (Int32.ofNat f)) 5 0 0 24 0).1 5 0 0 24 = 0 := by rw [am_si_self]
    have hT2 := hT1.mv k2 rfl (fun _ => rfl)
    generalize am_si (am_si N 5 0 0 23 (Int32.ofNat f)) 5 0 0 24 0 = N2 at t21 t23 t24 hT2 ⊢
    rw [t21, hT2.2.1, i_cl (x := f) (by omega)]
    refine wp_ieq (by omega) (by omega) (fun e => wp_let (wp_some ?_)) (fun hne => ?_)
    · have e0 : kd z c f = 0 := kd_0.2 (by omega)
      refine ⟨(si_j (by decide)).trans t23, ?_, by rw [am_si_self, e0]; rfl, fun h => absurd h (by omega)⟩
      rw [si_j (by decide), t21]
      unfold te
      rw [if_neg (by omega)]
    · have hlt : f < z := by omega
      have h5 := (hT2.2.2 f hlt).2
      have ek : kd z c f = tk (c f) := by unfold kd; rw [if_pos hlt]
      have ete : te z c f = if tk (c f) = 1 ∨ tk (c f) = 2 then rn z c (tk (c f)) (f + 1) else f + 1 := by unfold te; rw [if_pos hlt]
      rw [(hT2.2.2 f hlt).1]
      refine wp_inb (by omega) (by omega) (wp_be (r_let N2 h5) (wp_bz (fun e1 => wp_inb (by omega) (by omega) (wp_be (r_dig N2 h5) (wp_bz (fun e2 => wp_inb (by omega) (by omega) (wp_ieq (y := 59) (by omega) (by omega) (fun e3 => wp_let (wp_let (wp_some ?_))) (fun e3 => wp_let (wp_let (wp_some ?_))))) (fun e2 => wp_let ?_)))) (fun e1 => wp_let ?_)))
      · rw [decide_eq_false_iff_not] at e1 e2
        have e4 : tk (c f) = 3 := by rw [e3]; rfl
        refine ⟨(si_j (by decide)).trans ((si_j (by decide)).trans t23), ?_, by rw [si_j (by decide), am_si_self, ek, e4]; rfl, fun h => absurd h (by omega)⟩
        rw [am_si_self, si_j (by decide), t21, i_s, ete, if_neg (by omega)]
      · rw [decide_eq_false_iff_not] at e1 e2
        have e4 : tk (c f) = 4 := by
          unfold tk at e1 e2 ⊢
          by_cases q1 : 97 ≤ c f ∧ c f ≤ 122
          · rw [if_pos q1] at e1; exact absurd rfl e1
          · rw [if_neg q1] at e2 ⊢
            by_cases q2 : 48 ≤ c f ∧ c f ≤ 57
            · rw [if_pos q2] at e2; exact absurd rfl e2
            · rw [if_neg q2, if_neg e3]
        refine ⟨(si_j (by decide)).trans ((si_j (by decide)).trans t23), ?_, by rw [si_j (by decide), am_si_self, ek, e4]; rfl, fun h => absurd h (by omega)⟩
        rw [am_si_self, si_j (by decide), t21, i_s, ete, if_neg (by omega)]
      · rw [decide_eq_true_eq] at e2
        have k3 : keeps [(5, some 0, some 22)] N2 (am_si N2 5 0 0 22 2) := (keeps.rf _ N2).si rfl
        have es : rn z c 2 f = rn z c 2 (f + 1) := by rw [rn_eq z c 2 f, if_pos ⟨hlt, e2⟩]
        refine wp_call (wp_km (r_look149 hlt e2 1000 f _ (hT2.mv k3 rfl (fun _ => rfl)) (Nat.le_refl _) (by omega) (fun j h1 h2 => absurd h2 (by omega)) (by omega) ((k3.i _ _ _ _ rfl).trans t23) ((k3.i _ _ _ _ rfl).trans t21) (by rw [k3.i _ _ _ _ rfl, t24]; unfold fg; rw [if_pos rfl]; rfl)) (fr_l_X5_look_149 _ _)) (fun N3 h3 => wp_some ?_)
        obtain ⟨⟨q1, q2⟩, k4⟩ := h3
        rw [es] at q1 q2
        have ete' : te z c f = rn z c 2 (f + 1) := by rw [ete, if_pos (Or.inr e2), e2]
        refine ⟨(k4.i _ _ _ _ rfl).trans ((k3.i _ _ _ _ rfl).trans t23), by rw [ete']; exact q1, ?_, fun _ => by rw [ete']; exact q2⟩
        rw [k4.i _ _ _ _ rfl, am_si_self, ek, e2]
        rfl
      · rw [decide_eq_true_eq] at e1
        have k3 : keeps [(5, some 0, some 22)] N2 (am_si N2 5 0 0 22 1) := (keeps.rf _ N2).si rfl
        have es : rn z c 1 f = rn z c 1 (f + 1) := by rw [rn_eq z c 1 f, if_pos ⟨hlt, e1⟩]
        refine wp_call (wp_km (r_look90 1000 f _ (hT2.mv k3 rfl (fun _ => rfl)) (by omega) (by omega) ((k3.i _ _ _ _ rfl).trans t21)) (fr_l_X5_look_90 _ _)) (fun N3 h3 => wp_some ?_)
        obtain ⟨q1, k4⟩ := h3
        rw [es] at q1
        refine ⟨(k4.i _ _ _ _ rfl).trans ((k3.i _ _ _ _ rfl).trans t23), by rw [ete, if_pos (Or.inl e1), e1]; exact q1, ?_, fun h => absurd h (by omega)⟩
        rw [k4.i _ _ _ _ rfl, am_si_self, ek, e1]
        rfl
