/-! the whole tape -/
theorem PR_01 {z : Nat} {c : Nat → Nat} {y : Int32 × am_M} {r : Nat ⊕ (dd × Nat)} (h : PR z c y r) : y.1 = 0 ∨ y.1 = 1 := by
  cases r with
  | inl g => exact Or.inl h.1
  | inr q => exact Or.inr h.1
theorem r_stm {M : am_M} {z f : Nat} {c : Nat → Nat} {D : dd} (w : WF D) (hR : RF M 0 D) (hT : TPr M z c) (hK : TKr M z c f) (hf : f ≤ z) : wp (f_X5_statement M 0) (fun y => PR z c y (stm z c D f) ∧ keeps sRd M y.2) := by
  have e0 := r_word hT hK hf 0
  have e1 := r_word hT hK hf 1
  have e2 := r_word hT hK hf 2
  have e3 := r_word hT hK hf 3
  have h10 : ¬ bz true = 0 := by decide
  have w1 := w.1
  have w5 := w.2.2.2.2.1
  have w6 := w.2.2.2.2.2.1
  have w9 := w.2.2.2.2.2.2.2.2.1
  have wrap : ∀ {x : Option (Int32 × am_M)} {r : Nat ⊕ (dd × Nat)}, wp x (fun y => PR z c y r ∧ keeps sRd M y.2) → wp (x.bind (fun r => if (r.1 = 0 ∨ r.1 = 1) then some (r.1, r.2) else none)) (fun y => PR z c y r ∧ keeps sRd M y.2) := fun {x r} hx => wp_call hx (fun y hy => wp_pos (PR_01 hy.1) (wp_some hy))
  have wrg : wp ((f_X5_wrong M 0).bind (fun r => if (r.1 = 0 ∨ r.1 = 1) then some (r.1, r.2) else none)) (fun y => PR z c y (.inl f) ∧ keeps sRd M y.2) := by
    rw [r_wr M hK.1]
    exact wp_some ⟨⟨rfl, by rw [am_si_self]⟩, (keeps.rf _ M).si rfl⟩
  unfold f_X5_statement stm
  rw [hR.2.2.1, hR.1, hR.2.2.2.2.1]
  by_cases w0 : wd z c 0 f = true
  · have x1 := wd_x (u := 1) w0 (by omega) (by omega) (by omega)
    have x2 := wd_x (u := 2) w0 (by omega) (by omega) (by omega)
    have x3 := wd_x (u := 3) w0 (by omega) (by omega) (by omega)
    rw [w0] at e0
    rw [x1] at e1
    rw [x2] at e2
    rw [x3] at e3
    rw [if_pos w0]
    refine wp_be e0 (wp_neg h10 (wp_ieq (y := 0) (by omega) (by omega) (fun er => wp_le (x := 4) (by omega) (by omega) (fun e4 => ?_) (fun e4 => ?_)) (fun er => ?_)))
    · rw [if_neg (show ¬ (dr D = 0 ∧ dh D < 4) from by omega)]
      exact wp_be e3 (wp_pos rfl (wp_be e2 (wp_pos rfl (wp_be e1 (wp_pos rfl wrg)))))
    · rw [if_pos ⟨er, e4⟩]
      exact wrap (wp_mono (wp_kp (r_stH w hR hT hK hf e4) fr_f_X5_heapTold) (fun y hy => ⟨hy.1, hy.2.mono rfl⟩))
    · rw [if_neg (show ¬ (dr D = 0 ∧ dh D < 4) from by omega)]
      exact wp_be e3 (wp_pos rfl (wp_be e2 (wp_pos rfl (wp_be e1 (wp_pos rfl wrg)))))
  rw [if_neg w0]
  rw [Bool.not_eq_true] at w0
  rw [w0] at e0
  by_cases q1 : wd z c 1 f = true
  · have x2 := wd_x (u := 2) q1 (by omega) (by omega) (by omega)
    have x3 := wd_x (u := 3) q1 (by omega) (by omega) (by omega)
    rw [q1] at e1
    rw [x2] at e2
    rw [x3] at e3
    rw [if_pos q1]
    refine wp_be e0 (wp_pos rfl (wp_be e3 (wp_pos rfl (wp_be e2 (wp_pos rfl (wp_be e1 (wp_neg h10 (wp_ieq (y := 4) (by omega) (by omega) (fun e4 => ?_) (fun e4 => ?_)))))))))
    · rw [if_neg (by omega)]
      exact wrg
    · rw [if_pos (show df D < 4 from by omega)]
      exact r_stF hR hT hK hf (by omega)
  rw [if_neg q1]
  rw [Bool.not_eq_true] at q1
  rw [q1] at e1
  by_cases q2 : wd z c 2 f = true
  · have x3 := wd_x (u := 3) q2 (by omega) (by omega) (by omega)
    rw [q2] at e2
    rw [x3] at e3
    rw [if_pos q2]
    exact wp_be e0 (wp_pos rfl (wp_be e3 (wp_pos rfl (wp_be e2 (wp_neg h10 (wrap (wp_mono (wp_kp (r_stR w hR hT hK hf) fr_f_X5_readTold) (fun y hy => ⟨hy.1, hy.2.mono rfl⟩))))))))
  rw [if_neg q2]
  rw [Bool.not_eq_true] at q2
  rw [q2] at e2
  by_cases q3 : wd z c 3 f = true
  · rw [q3] at e3
    rw [if_pos q3]
    refine wp_be e0 (wp_pos rfl (wp_be e3 (wp_neg h10 (wp_ieq (y := 0) (by omega) (by omega) (fun er => ?_) (fun er => ?_)))))
    · rw [if_pos er]
      exact wrap (wp_mono (wp_kp (r_stS w hR hT hK hf) fr_f_X5_swapTold) (fun y hy => ⟨hy.1, hy.2.mono rfl⟩))
    · rw [if_neg er]
      exact wp_be e2 (wp_pos rfl (wp_be e1 (wp_pos rfl wrg)))
  · rw [if_neg q3]
    rw [Bool.not_eq_true] at q3
    rw [q3] at e3
    exact wp_be e0 (wp_pos rfl (wp_be e3 (wp_pos rfl (wp_be e2 (wp_pos rfl (wp_be e1 (wp_pos rfl wrg)))))))
def rdN (s : Nat ⊕ (dd × Nat)) (F : dd × Nat → Nat ⊕ (dd × Nat)) : Nat ⊕ (dd × Nat) :=
  match s with
  | .inl g => .inl g
  | .inr q => F q
def rdA (z : Nat) (c : Nat → Nat) : Nat → dd → Nat → Nat → Nat ⊕ (dd × Nat)
  | 0, _, f, _ => .inl f
  | m + 1, D, f, k => rdN (stm z c D f) (fun q => if kd z c (fr z c q.2) = 0 then .inr (q.1, k) else if kd z c (fr z c q.2) = 3 then rdA z c m q.1 (fr z c (te z c (fr z c q.2))) (k + 1) else .inl (fr z c q.2))
def PCA (y : Int32 × am_M) : Nat ⊕ (dd × Nat) → Prop
  | .inl g => y.1 = -1 ∧ y.2.1 3 0 0 1 = Int32.ofNat g
  | .inr q => y.1 = Int32.ofNat q.2 ∧ q.2 ≤ 126 ∧ WF q.1 ∧ DR y.2 0 q.1
def PRA (y : Int32 × am_M) : Nat ⊕ (dd × Nat) → Prop
  | .inl g => y.1 = 0 ∧ y.2.1 5 0 0 25 = Int32.ofNat g
  | .inr q => y.1 = 1 ∧ RF y.2 0 q.1 ∧ y.2.1 5 0 0 27 = Int32.ofNat q.2
theorem c_into7 {z : Nat} {c : Nat → Nat} : ∀ (n k p : Nat) (M : am_M) (D : dd), p ≤ z → z + 1 ≤ n + p → 2 * k ≤ p + 2 → WF D → DR M 0 D → TPc M z c → M.1 3 0 0 3 = Int32.ofNat p → wp (l_X3_readInto_7 0 n (Int32.ofNat k) M) (fun y => PCA y (rdA z c n D (fr z c p) k)) := by
  intro n
  induction n with
  | zero => intro k p M D h1 h2; omega
  | succ n ih =>
    intro k p M D hp hn hk w hD hT h3
    have hz := hT.1
    have hf := fr_le (c := c) hp
    rw [l_X3_readInto_7, rdA]
    refine wp_lt (x := 250) (by omega) (by omega) (fun h => absurd h (by omega)) (fun _ => ?_)
    refine wp_call (wp_km (c_next hT h3 hp) fr_f_X3_nextToken) (fun N hN => ?_)
    obtain ⟨t1, k1⟩ := hN
    have hT1 := hT.mv k1 rfl (fun _ => rfl)
    refine wp_call (wp_kp (c_stm w (hD.ag k1 rfl) hT1 t1 hf.2) fr_f_X3_statement) (fun y hy => ?_)
    obtain ⟨hy, k2⟩ := hy
    have hT2 := hT1.mv k2 rfl (fun _ => rfl)
    cases es : stm z c D (fr z c p) with
    | inl g =>
      rw [es] at hy
      rw [hy.1]
      exact wp_pos rfl (wp_some ⟨rfl, hy.2⟩)
    | inr q =>
      rw [es] at hy
      obtain ⟨wq, q1, q2⟩ := stm_wf w hf.2 es
      obtain ⟨y1, y2, y3⟩ := hy
      have hfq := fr_le (c := c) q2
      have hlq := te_le (c := c) hfq.2
      have hk4 := kd_le z c (fr z c q.2)
      rw [y1]
      refine wp_neg (by decide) (wp_call (wp_km (c_next hT2 y3 q2) fr_f_X3_nextToken) (fun N2 hN2 => ?_))
      obtain ⟨t2, k3⟩ := hN2
      have hT3 := hT2.mv k3 rfl (fun _ => rfl)
      rw [t2.2.2]
      show wp _ (fun y => PCA y (if kd z c (fr z c q.2) = 0 then .inr (q.1, k) else if kd z c (fr z c q.2) = 3 then rdA z c n q.1 (fr z c (te z c (fr z c q.2))) (k + 1) else .inl (fr z c q.2)))
      refine wp_ieq (y := 0) (by omega) (by omega) (fun e => wp_some ?_) (fun e => wp_ieq (y := 3) (by omega) (by omega) (fun e3 => wp_let ?_) (fun e3 => wp_some ?_))
      · rw [if_pos e]
        exact ⟨rfl, by dsimp only; omega, wq, y2.ag k3 rfl⟩
      · rw [if_neg e, if_pos e3, i_s]
        have := (kd_lt e).1
        have := hlq.2.2 this
        exact ih (k + 1) (te z c (fr z c q.2)) N2 q.1 hlq.2.1 (by omega) (by omega) wq (y2.ag k3 rfl) hT3 t2.2.1
      · rw [if_neg e, if_neg e3]
        exact ⟨rfl, t2.1⟩
def sRe : kS := [(5, some 0, some 10), (5, some 0, some 14), (5, some 0, some 16), (5, some 0, some 21), (5, some 0, some 22), (5, some 0, some 23), (5, some 0, some 24), (5, some 0, some 25), (5, some 0, some 27), (611, some 0, none), (612, some 0, none), (613, some 0, none), (617, some 0, none), (626, some 0, none), (715, some 0, none)]
theorem r_all23 {z : Nat} {c : Nat → Nat} : ∀ (n m k p : Nat) (M : am_M) (D : dd), p ≤ z → z + 1 ≤ n + p → z + 1 ≤ m + te z c (fr z c p) → WF D → RF M 0 D → TPr M z c → TKr M z c (fr z c p) → M.1 5 0 0 27 = Int32.ofNat k → wp (l_X5_readAll_23 0 n M) (fun y => PRA y (if kd z c (fr z c p) = 0 then .inr (D, k) else if kd z c (fr z c p) = 3 then rdA z c m D (fr z c (te z c (fr z c p))) (k + 1) else .inl (fr z c p)) ∧ keeps sRe M y.2) := by
  intro n
  induction n with
  | zero => intro m k p M D h1 h2; omega
  | succ n ih =>
    intro m k p M D hp hn hm w hR hT hK h27
    have hz := hT.1
    have hf := fr_le (c := c) hp
    have hl := te_le (c := c) hf.2
    have hf2 := fr_le (c := c) hl.2.1
    have hk4 := kd_le z c (fr z c p)
    rw [l_X5_readAll_23, hK.2.2.1]
    refine wp_ieq (y := 0) (by omega) (by omega) (fun e => wp_some ?_) (fun e => wp_ieq (y := 3) (by omega) (by omega) (fun e3 => ?_) (fun e3 => ?_))
    · rw [if_pos e]
      exact ⟨⟨rfl, hR, h27⟩, keeps.rf _ _⟩
    · rw [if_neg e, if_pos e3]
      obtain ⟨m', rfl⟩ : ∃ m', m = m' + 1 := ⟨m - 1, by omega⟩
      rw [rdA]
      refine wp_call (wp_km (r_look hT hK.2.1 hl.2.1) fr_f_X5_look) (fun N hN => ?_)
      obtain ⟨t1, k1⟩ := hN
      have hT1 := hT.mv k1 rfl (fun _ => rfl)
      have kk1 : keeps sRe M N := k1.mono rfl
      refine wp_call (r_stm w (hR.ag k1 rfl) hT1 t1 hf2.2) (fun y hy => ?_)
      obtain ⟨hy, k2⟩ := hy
      have hT2 := hT1.mv k2 rfl (fun _ => rfl)
      have kk2 : keeps sRe M y.2 := kk1.trans (k2.mono rfl)
      cases es : stm z c D (fr z c (te z c (fr z c p))) with
      | inl g =>
        rw [es] at hy
        rw [hy.1]
        exact wp_pos rfl (wp_some ⟨⟨rfl, hy.2⟩, kk2⟩)
      | inr q =>
        rw [es] at hy
        obtain ⟨wq, q1, q2⟩ := stm_wf w hf2.2 es
        obtain ⟨y1, y2, y3⟩ := hy
        have hfq := fr_le (c := c) q2
        have hlq := te_le (c := c) hfq.2
        rw [y1]
        refine wp_neg (by decide) (wp_let ?_)
        rw [k2.i 5 0 0 27 rfl, k1.i 5 0 0 27 rfl, h27, i_s]
        have k3 : keeps [(5, some 0, some 27)] y.2 (am_si y.2 5 0 0 27 (Int32.ofNat (k + 1))) := (keeps.rf _ y.2).si rfl
        exact wp_mono (ih m' (k + 1) q.2 _ q.1 q2 (by omega) (by omega) wq (y2.ag k3 rfl) (hT2.mv k3 rfl (fun _ => rfl)) (y3.mv k3 rfl rfl rfl rfl) (by rw [am_si_self])) (fun u hu => ⟨hu.1, (kk2.trans (k3.mono rfl)).trans hu.2⟩)
    · rw [if_neg e, if_neg e3, r_wr M hK.1]
      exact wp_some ⟨⟨rfl, by rw [am_si_self]⟩, (keeps.rf _ M).si rfl⟩
theorem r_readAll {M : am_M} {z : Nat} {c : Nat → Nat} {D : dd} (w : WF D) (hR : RF M 0 D) (hT : TPr M z c) : wp (f_X5_readAll M 0) (fun y => PRA y (rdA z c 1000 D (fr z c 0) 1) ∧ keeps sRe M y.2) := by
  have hz := hT.1
  have hf := fr_le (c := c) (Nat.zero_le z)
  unfold f_X5_readAll
  refine wp_let (wp_let ?_)
  have k0 : keeps [(5, some 0, some 21), (5, some 0, some 27)] M (am_si (am_si M 5 0 0 27 1) 5 0 0 21 0) := ((keeps.rf _ M).si rfl).si rfl
  have t0 : (am_si (am_si M 5 0 0 27 1) 5 0 0 21 0).1 5 0 0 21 = Int32.ofNat 0 := by rw [am_si_self]; rfl
  have t27 : (am_si (am_si M 5 0 0 27 1) 5 0 0 21 0).1 5 0 0 27 = Int32.ofNat 1 := by rw [si_j (by decide), am_si_self]; rfl
  have hT0 := hT.mv k0 rfl (fun _ => rfl)
  have hR0 := hR.ag k0 rfl
  generalize am_si (am_si M 5 0 0 27 1) 5 0 0 21 0 = N0 at k0 t0 t27 hT0 hR0 ⊢
  refine wp_call (wp_km (r_look hT0 t0 (Nat.zero_le z)) fr_f_X5_look) (fun N hN => ?_)
  obtain ⟨t1, k1⟩ := hN
  have hT1 := hT0.mv k1 rfl (fun _ => rfl)
  have kk1 : keeps sRe M N := (k0.mono rfl).trans (k1.mono rfl)
  refine wp_call (r_stm w (hR0.ag k1 rfl) hT1 t1 hf.2) (fun y hy => ?_)
  obtain ⟨hy, k2⟩ := hy
  have hT2 := hT1.mv k2 rfl (fun _ => rfl)
  have kk2 : keeps sRe M y.2 := kk1.trans (k2.mono rfl)
  rw [show (1000 : Nat) = 999 + 1 from rfl, rdA]
  cases es : stm z c D (fr z c 0) with
  | inl g =>
    rw [es] at hy
    rw [hy.1]
    exact wp_pos rfl (wp_some ⟨⟨rfl, hy.2⟩, kk2⟩)
  | inr q =>
    rw [es] at hy
    obtain ⟨wq, q1, q2⟩ := stm_wf w hf.2 es
    obtain ⟨y1, y2, y3⟩ := hy
    rw [y1]
    exact wp_neg (by decide) (wp_mono (r_all23 1000 999 1 q.2 y.2 q.1 q2 (by omega) (by omega) wq y2 hT2 y3 ((k2.i _ _ _ _ rfl).trans ((k1.i _ _ _ _ rfl).trans t27))) (fun u hu => ⟨hu.1, kk2.trans hu.2⟩))
def sCd : kS := [(1, some 0, none), (203, some 0, none), (204, some 0, none), (205, some 0, none), (208, some 0, none), (210, some 0, none), (211, some 0, none), (212, some 0, none), (1, some 2, none), (203, some 2, none), (204, some 2, none), (205, some 2, none), (208, some 2, none), (210, some 2, none), (211, some 2, none), (212, some 2, none), (3, some 0, some 0), (3, some 0, some 1), (3, some 0, some 3), (3, some 0, some 4), (3, some 0, some 5)]
theorem c_drum {M : am_M} {z : Nat} {c : Nat → Nat} {D : dd} (w : WF D) (hD : DR M 0 D) (hT : TPc M z c) : wp (f_X4_drum M) (fun y => match rdA z c 1000 D (fr z c 0) 1 with | .inl g => ∃ N, y = ((-20 : Int32) - Int32.ofNat g, ref4 N 2) ∧ DR N 0 D ∧ N.1 3 0 0 0 = 0 ∧ keeps sCd M N | .inr q => y.1 = Int32.ofNat q.2 ∧ WF q.1 ∧ DR y.2 0 q.1 ∧ y.2.1 3 0 0 0 = 0 ∧ keeps sCd M y.2) := by
  have hz := hT.1
  unfold f_X4_drum f_X3_readInto
  refine wp_call (wp_km (c_takeOver (o := 2) w (by decide) hD) fr_f_X1_takeOver) (fun N1 h1 => ?_)
  obtain ⟨d2, k1⟩ := h1
  have k2 : keeps [(3, some 0, some 3)] N1 (am_si N1 3 0 0 3 0) := (keeps.rf _ N1).si rfl
  have t3 : (am_si N1 3 0 0 3 0).1 3 0 0 3 = Int32.ofNat 0 := by rw [am_si_self]; rfl
  refine wp_call (wp_let (wp_kp (c_into7 1000 1 0 (am_si N1 3 0 0 3 0) D (Nat.zero_le _) (by omega) (by omega) w ((hD.ag k1 rfl).ag k2 rfl) ((hT.mv k1 rfl (fun _ => rfl)).mv k2 rfl (fun _ => rfl)) t3) (fr_l_X3_readInto_7 _ _ _))) (fun y hy => wp_let (wp_let ?_))
  obtain ⟨hy, k3⟩ := hy
  have k4 : keeps [(3, some 0, some 0)] y.2 (am_si y.2 3 0 0 0 0) := (keeps.rf _ y.2).si rfl
  have kk : keeps sCd M (am_si y.2 3 0 0 0 0) := (((k1.mono rfl).trans (k2.mono rfl)).trans (k3.mono rfl)).trans (k4.mono rfl)
  have t0 : (am_si y.2 3 0 0 0 0).1 3 0 0 0 = 0 := by rw [am_si_self]
  cases er : rdA z c 1000 D (fr z c 0) 1 with
  | inl g =>
    rw [er] at hy
    rw [hy.1]
    have d6 : DR (am_si y.2 3 0 0 0 0) 2 D := ((d2.ag k2 rfl).ag k3 rfl).ag k4 rfl
    refine wp_pos rfl (wp_call (wp_km (c_takeOver (o := 0) w (by decide) d6) fr_f_X1_takeOver) (fun N hN => wp_be (x4_ref2 N) (wp_some ⟨N, ?_, hN.1, (hN.2.i _ _ _ _ rfl).trans t0, kk.trans (hN.2.mono rfl)⟩)))
    dsimp only
    rw [(ref4_k N 2).i 3 0 0 1 rfl, hN.2.i 3 0 0 1 rfl, k4.i 3 0 0 1 rfl, hy.2]
  | inr q =>
    rw [er] at hy
    obtain ⟨y1, y2, y3, y4⟩ := hy
    rw [y1]
    refine wp_neg (fun h => ?_) (wp_some ⟨rfl, y3, y4.ag k4 rfl, t0, kk⟩)
    have : ∀ k, k < 127 → ¬ Int32.ofNat k = -1 := by decide
    exact this q.2 (by omega) h
def gX (w : Nat) (b : Bool) (M : am_M) : Prop := gtS M ∧ gtR w M ∧ gtK b M
def tX : kS := [(2, none, none), (303, none, none), (600, some 0, none), (601, some 0, none), (602, some 0, none), (605, some 0, none), (606, some 0, none), (703, some 0, none), (507, some 0, none), (609, some 0, none), (4, some 0, some 8), (1, some 1, none), (203, some 1, none), (204, some 1, none), (205, some 1, none), (208, some 1, none), (210, some 1, none), (211, some 1, none), (212, some 1, none), (5, some 2, some 10), (5, some 2, some 16), (5, some 2, some 14), (5, some 2, some 18), (611, some 2, none), (612, some 2, none), (613, some 2, none), (617, some 2, none), (715, some 2, none)]
theorem tX_D1 : ∀ d ∈ tD 1, d ∈ tX := by decide +kernel
theorem tX_R2 : ∀ d ∈ tR5 2, d ∈ tX := by decide +kernel
theorem tX_Sh : ∀ d ∈ tSh, d ∈ tX := by decide +kernel
theorem tX_Rf : ∀ d ∈ tRf, d ∈ tX := by decide +kernel
theorem tX_K4 : ∀ d ∈ tK4, d ∈ tX := by decide +kernel
theorem gX.ag {M N : am_M} {S : kS} {w : Nat} {b : Bool} (h : gX w b M) (hk : keeps S M N) (hd : dj S tX = true) : gX w b N := ⟨h.1.ag hk (djM hd tX_Sh), h.2.1.ag hk (djM hd tX_Rf), h.2.2.ag hk (djM hd tX_K4) (djM hd tX_D1) (djM hd tX_R2)⟩
theorem gX_ref4 {M : am_M} {w : Nat} {b : Bool} (hw : 2 ≤ w) (h : gX 0 b M) : gX w b (ref4 M w) := by
  obtain ⟨h2, h4, h5⟩ := h
  have hk := ref4_k M w
  refine ⟨h2.ag hk rfl, fun i hi => ?_, h5.ag hk rfl rfl rfl⟩
  have h0 := h4 i hi
  rw [if_neg (show ¬ i + 2 = 0 from by omega), Int32.add_zero] at h0
  unfold ref4
  rw [si_e, si_k (by decide)]
  by_cases hc : i + 2 = w
  · rw [if_pos (show i = w - 2 from by omega), if_pos hc, ← h0, show w - 2 = i from by omega]
  · rw [if_neg (show ¬ i = w - 2 from by omega), if_neg hc, Int32.add_zero]
    exact h0
theorem rst_1X : dj (rstS 1) tX = true := by decide +kernel
theorem rst_1D : dj (rstS 1) (tD 0) = true := by decide +kernel
theorem rst_1T : dj (rstS 1) tTp = true := by decide +kernel
theorem rst_1c : dj (rstS 1) [(3, some 0, some 0)] = true := by decide +kernel
theorem TPr.ag {M N : am_M} {z : Nat} {c : Nat → Nat} {S : kS} (h : TPr M z c) (hk : keeps S M N) (hd : dj S tTp = true) : TPr N z c := by
  have ha := hk.ag hd
  exact ⟨h.1, (ha 5 0 0 8 rfl).1.trans h.2.1, fun j hj => ⟨(ha 607 0 0 j rfl).1.trans (h.2.2 j hj).1, (h.2.2 j hj).2⟩⟩
/-- the reference's reading, from a memory where the class has done -/
theorem r_drum {N : am_M} {z : Nat} {c : Nat → Nat} {D D' : dd} {tr b : Bool} {wd : Nat} (w : WF D) (hR : RF N 0 D) (hT : TPr N z c) (hD : DR N 0 D') (h3 : N.1 3 0 0 0 = 0) (hX : gX wd b N) : wp (f_X5_drum tr N) (fun y => match rdA z c 1000 D (fr z c 0) 1 with | .inl g => ∃ N', y = ((-20 : Int32) - Int32.ofNat g, ref5 N' 2) ∧ RF N' 0 D ∧ DR N' 0 D' ∧ gtT N' ∧ gX wd b N' | .inr q => y.1 = Int32.ofNat q.2 ∧ RF y.2 0 q.1 ∧ DR y.2 0 D' ∧ gtT y.2 ∧ gX wd b y.2) := by
  unfold f_X5_drum
  have k1 := cond_k tr N
  have hR1 := hR.ag k1 rst_1R
  have hT1 := hT.ag k1 rst_1T
  have hD1 := hD.ag k1 rst_1D
  have h31 : (am_cond tr N 1).1 3 0 0 0 = 0 := ((k1.ag rst_1c) 3 0 0 0 rfl).1.trans h3
  have hX1 := hX.ag k1 rst_1X
  generalize am_cond tr N 1 = N1 at hR1 hT1 hD1 h31 hX1 k1 ⊢
  refine wp_call (wp_km (r_takeFrom (o := 1) w (by decide) hR1) fr_f_X5_takeFrom) (fun N2 h2 => ?_)
  obtain ⟨r2, k2⟩ := h2
  unfold f_X5_drumB
  refine wp_call (r_readAll w (hR1.ag k2 rfl) (hT1.ag k2 rfl)) (fun y hy => wp_let ?_)
  obtain ⟨hy, k3⟩ := hy
  have k4 : keeps [(5, some 0, some 8)] y.2 (am_si y.2 5 0 0 8 0) := (keeps.rf _ y.2).si rfl
  have hD4 := ((hD1.ag k2 rfl).ag k3 rfl).ag k4 rfl
  have hX4 := ((hX1.ag k2 rfl).ag k3 rfl).ag k4 rfl
  have h34 : (am_si y.2 5 0 0 8 0).1 3 0 0 0 = 0 := (k4.i _ _ _ _ rfl).trans ((k3.i _ _ _ _ rfl).trans ((k2.i _ _ _ _ rfl).trans h31))
  have h84 : (am_si y.2 5 0 0 8 0).1 5 0 0 8 = 0 := by rw [am_si_self]
  cases er : rdA z c 1000 D (fr z c 0) 1 with
  | inl g =>
    rw [er] at hy
    rw [hy.1]
    have r4 : RF (am_si y.2 5 0 0 8 0) 1 D := (r2.ag k3 rfl).ag k4 rfl
    refine wp_pos rfl (wp_call (wp_km (r_takeFrom (o := 0) w (by decide) r4) fr_f_X5_takeFrom) (fun N5 h5 => wp_be (x5_ref2 N5) (wp_some ⟨N5, ?_, h5.1, hD4.ag h5.2 rfl, ⟨0, fun _ => 0, by omega, ?_, ?_, fun j hj => absurd hj (Nat.not_lt_zero j)⟩, hX4.ag h5.2 rfl⟩)))
    · dsimp only
      rw [(ref5_k N5 2).i 5 0 0 25 rfl, h5.2.i 5 0 0 25 rfl, k4.i 5 0 0 25 rfl, hy.2]
    · exact (h5.2.i _ _ _ _ rfl).trans h34
    · exact (h5.2.i _ _ _ _ rfl).trans h84
  | inr q =>
    rw [er] at hy
    obtain ⟨y1, y2, y3⟩ := hy
    rw [y1]
    exact wp_neg (by decide) (wp_some ⟨(k4.i _ _ _ _ rfl).trans y3, y2.ag k4 rfl, hD4, ⟨0, fun _ => 0, by omega, h34, h84, fun j hj => absurd hj (Nat.not_lt_zero j)⟩, hX4⟩)
theorem k_drum : ok_drum GT := by
  intro tr b M h
  obtain ⟨⟨D, w, hD, hR⟩, hS, ⟨z, c, hz, t1, t2, t3⟩, hRu, hK⟩ := id h
  have hTc : TPc M z c := ⟨hz, t1, fun j hj => ⟨(t3 j hj).1, (t3 j hj).2.2⟩⟩
  have hTr : TPr M z c := ⟨hz, t2, fun j hj => ⟨(t3 j hj).2.1, (t3 j hj).2.2⟩⟩
  have hX : gX 0 b M := ⟨hS, hRu, hK⟩
  obtain ⟨y, ey, hy⟩ := c_drum w hD hTc
  cases er : rdA z c 1000 D (fr z c 0) 1 with
  | inl g =>
    rw [er] at hy
    obtain ⟨N, rfl, d, s3, kN⟩ := hy
    have kr := ref4_k N 2
    obtain ⟨u, eu, hu⟩ := r_drum (tr := tr) (b := b) (wd := 2) (N := ref4 N 2) w ((hR.ag kN rfl).ag kr rfl) ((hTr.mv kN rfl (fun _ => rfl)).mv kr rfl (fun _ => rfl)) (d.ag kr rfl) ((kr.i _ _ _ _ rfl).trans s3) (gX_ref4 (by omega) (hX.ag kN rfl))
    rw [er] at hu
    obtain ⟨N', rfl, r', d', T', X'⟩ := hu
    exact ⟨_, _, ey, eu, rfl, gt_ref5 (by omega) ⟨⟨D, w, d', r'⟩, X'.1, T', X'.2.1, X'.2.2⟩⟩
  | inr q =>
    rw [er] at hy
    obtain ⟨y1, wq, d, s3, kN⟩ := hy
    obtain ⟨u, eu, hu⟩ := r_drum (tr := tr) (b := b) (wd := 0) (N := y.2) w (hR.ag kN rfl) (hTr.mv kN rfl (fun _ => rfl)) d s3 (hX.ag kN rfl)
    rw [er] at hu
    obtain ⟨u1, r', d', T', X'⟩ := hu
    exact ⟨y, u, ey, eu, y1.trans u1.symm, ⟨q.1, wq, d', r'⟩, X'.1, T', X'.2.1, X'.2.2⟩
