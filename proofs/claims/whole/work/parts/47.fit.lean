/-! the drum as numbers; the cells of rows that fit -/
abbrev dd : Type := (Nat × (Nat → Nat) × (Nat → Nat) × (Nat → Nat)) × (Nat × (Nat → Nat)) × (Nat × (Nat → Nat) × (Nat → Nat) × (Nat → Nat)) × Int32
abbrev dh (D : dd) : Nat := D.1.1
abbrev dA (D : dd) : Nat → Nat := D.1.2.1
abbrev dB (D : dd) : Nat → Nat := D.1.2.2.1
abbrev dO (D : dd) : Nat → Nat := D.1.2.2.2
abbrev dr (D : dd) : Nat := D.2.1.1
abbrev dS (D : dd) : Nat → Nat := D.2.1.2
abbrev df (D : dd) : Nat := D.2.2.1.1
abbrev dK (D : dd) : Nat → Nat := D.2.2.1.2.1
abbrev dT (D : dd) : Nat → Nat := D.2.2.1.2.2.1
abbrev dV (D : dd) : Nat → Nat := D.2.2.1.2.2.2
abbrev ds (D : dd) : Int32 := D.2.2.2
def dn (D : dd) : Nat := sm (fun i => dA D (dO D i) + dB D (dO D i)) (dh D)
def de (D : dd) : Nat := sm (fun i => dA D (dO D i)) (dh D)
def DP (D : dd) : Nat → Nat → Bool := PH (fun i => dA D (dO D i)) (fun i => dB D (dO D i)) (dh D)
def fh (k t v s a : Nat) : Bool := if k = 0 then (!decide (s = t) || decide (a = v)) else if k = 1 then (!decide (t ≤ s ∧ s ≤ v) || ah 1 s a) else if k = 2 then (!decide (s = t) || decide (2 * a = s)) else (!decide (t ≤ s ∧ s ≤ v) || decide (s ≤ 2 * a))
def FA (K T V : Nat → Nat) : Nat → Nat → Nat → Bool
  | 0, _, _ => true
  | i + 1, s, a => FA K T V i s a && fh (K i) (T i) (V i) s a
def PF (D : dd) (t a : Nat) : Bool := DP D t a && decide (dr D < t ∨ a = sm (dS D) t) && FA (dK D) (dT D) (dV D) (df D) t a
def WF (D : dd) : Prop := dh D ≤ 4 ∧ (∀ i, i < dh D → dA D i ≤ 9 ∧ dB D i ≤ 9 ∧ 1 ≤ dA D i + dB D i) ∧ (∀ i, i < dh D → dO D i < dh D) ∧ (∀ i j, i < dh D → j < dh D → dO D i = dO D j → i = j) ∧ dn D ≤ 24 ∧ dr D ≤ dn D ∧ (∀ i, i < dr D → dS D i ≤ 1) ∧ (∀ t, t ≤ dr D → DP D t (sm (dS D) t) = true) ∧ df D ≤ 4 ∧ (∀ i, i < df D → dK D i ≤ 3 ∧ dT D i ≤ 24 ∧ dV D i ≤ 24)
/-- the class's drum o -/
def DR (M : am_M) (o : Nat) (D : dd) : Prop := M.1 1 o 0 0 = Int32.ofNat (dh D) ∧ M.1 1 o 0 1 = Int32.ofNat (dn D) ∧ M.1 1 o 0 2 = Int32.ofNat (de D) ∧ (∀ i, i < dh D → M.1 203 o 0 i = Int32.ofNat (dA D i) ∧ M.1 204 o 0 i = Int32.ofNat (dB D i) ∧ M.1 205 o 0 i = Int32.ofNat (dO D i)) ∧ M.1 1 o 0 6 = Int32.ofNat (dr D) ∧ M.1 1 o 0 7 = Int32.ofNat (sm (dS D) (dr D)) ∧ (∀ i, i < dr D → M.1 208 o 0 i = Int32.ofNat (dS D i)) ∧ M.1 1 o 0 9 = Int32.ofNat (df D) ∧ (∀ i, i < df D → M.1 210 o 0 i = Int32.ofNat (dK D i) ∧ M.1 211 o 0 i = Int32.ofNat (dT D i) ∧ M.1 212 o 0 i = Int32.ofNat (dV D i)) ∧ M.1 1 o 0 13 = ds D
/-- the reference's drum o -/
def RF (M : am_M) (o : Nat) (D : dd) : Prop := M.1 5 o 0 10 = Int32.ofNat (dh D) ∧ (∀ i, i < dh D → M.1 611 o 0 i = Int32.ofNat (dA D i) ∧ M.1 612 o 0 i = Int32.ofNat (dB D i) ∧ M.1 613 o 0 i = Int32.ofNat (dO D i)) ∧ M.1 5 o 0 16 = Int32.ofNat (dr D) ∧ (∀ i, i < dr D → M.1 617 o 0 i = Int32.ofNat (dS D i)) ∧ M.1 5 o 0 14 = Int32.ofNat (df D) ∧ (∀ i, i < df D → M.1 715 o i 0 = Int32.ofNat (dK D i) ∧ M.1 715 o i 1 = Int32.ofNat (dT D i) ∧ M.1 715 o i 2 = Int32.ofNat (dV D i)) ∧ M.1 5 o 0 18 = ds D
theorem DR.HO {M : am_M} {o : Nat} {D : dd} (h : DR M o D) (w : WF D) : HO M o 205 o 0 (dh D) (dO D) (dA D) (dB D) := by
  refine ⟨h.1, fun i hi => ?_⟩
  have hO := w.2.2.1 i hi
  have h4 := w.1
  obtain ⟨a1, a2, a3⟩ := h.2.2.2.1 i hi
  obtain ⟨b1, b2, b3⟩ := h.2.2.2.1 (dO D i) hO
  exact ⟨a3, by omega, b1, b2⟩
def drS (o : Nat) (S : List (Nat × Option Nat × Option Nat)) : Prop := (∀ j, kpS S 1 o j = false) ∧ (∀ j, kpS S 203 o j = false) ∧ (∀ j, kpS S 204 o j = false) ∧ (∀ j, kpS S 205 o j = false) ∧ (∀ j, kpS S 208 o j = false) ∧ (∀ j, kpS S 210 o j = false) ∧ (∀ j, kpS S 211 o j = false) ∧ (∀ j, kpS S 212 o j = false)
theorem DR.mv {M N : am_M} {o : Nat} {D : dd} {S : List (Nat × Option Nat × Option Nat)} (h : DR M o D) (hk : keeps S M N) (hs : drS o S) : DR N o D := by
  obtain ⟨s1, s2, s3, s4, s5, s6, s7, s8⟩ := hs
  obtain ⟨h1, h2, h3, h4, h5, h6, h7, h8, h9, h10⟩ := h
  refine ⟨(hk.i _ _ _ _ (s1 _)).trans h1, (hk.i _ _ _ _ (s1 _)).trans h2, (hk.i _ _ _ _ (s1 _)).trans h3, fun i hi => ?_, (hk.i _ _ _ _ (s1 _)).trans h5, (hk.i _ _ _ _ (s1 _)).trans h6, fun i hi => (hk.i _ _ _ _ (s5 _)).trans (h7 i hi), (hk.i _ _ _ _ (s1 _)).trans h8, fun i hi => ?_, (hk.i _ _ _ _ (s1 _)).trans h10⟩
  · obtain ⟨a1, a2, a3⟩ := h4 i hi
    exact ⟨(hk.i _ _ _ _ (s2 _)).trans a1, (hk.i _ _ _ _ (s3 _)).trans a2, (hk.i _ _ _ _ (s4 _)).trans a3⟩
  · obtain ⟨a1, a2, a3⟩ := h9 i hi
    exact ⟨(hk.i _ _ _ _ (s6 _)).trans a1, (hk.i _ _ _ _ (s7 _)).trans a2, (hk.i _ _ _ _ (s8 _)).trans a3⟩
def rfS (o : Nat) (S : List (Nat × Option Nat × Option Nat)) : Prop := kpS S 5 o 10 = false ∧ kpS S 5 o 16 = false ∧ kpS S 5 o 14 = false ∧ kpS S 5 o 18 = false ∧ (∀ j, kpS S 611 o j = false) ∧ (∀ j, kpS S 612 o j = false) ∧ (∀ j, kpS S 613 o j = false) ∧ (∀ j, kpS S 617 o j = false) ∧ (∀ j, kpS S 715 o j = false)
theorem RF.mv {M N : am_M} {o : Nat} {D : dd} {S : List (Nat × Option Nat × Option Nat)} (h : RF M o D) (hk : keeps S M N) (hs : rfS o S) : RF N o D := by
  obtain ⟨s1, s2, s3, s4, s5, s6, s7, s8, s9⟩ := hs
  obtain ⟨h1, h2, h3, h4, h5, h6, h7⟩ := h
  refine ⟨(hk.i _ _ _ _ s1).trans h1, fun i hi => ?_, (hk.i _ _ _ _ s2).trans h3, fun i hi => (hk.i _ _ _ _ (s8 _)).trans (h4 i hi), (hk.i _ _ _ _ s3).trans h5, fun i hi => ?_, (hk.i _ _ _ _ s4).trans h7⟩
  · obtain ⟨a1, a2, a3⟩ := h2 i hi
    exact ⟨(hk.i _ _ _ _ (s5 _)).trans a1, (hk.i _ _ _ _ (s6 _)).trans a2, (hk.i _ _ _ _ (s7 _)).trans a3⟩
  · obtain ⟨a1, a2, a3⟩ := h6 i hi
    exact ⟨(hk.i _ _ _ _ (s9 _)).trans a1, (hk.i _ _ _ _ (s9 _)).trans a2, (hk.i _ _ _ _ (s9 _)).trans a3⟩
theorem sm_le1 {S : Nat → Nat} {r : Nat} (h : ∀ i, i < r → S i ≤ 1) : ∀ i, i ≤ r → sm S i ≤ i
  | 0, _ => Nat.le_refl _
  | i + 1, hi => by
    have h1 := sm_le1 h i (by omega)
    have h2 := h i (by omega)
    rw [sm]
    omega
theorem c_keepFact {M : am_M} {n e k t v : Nat} {P : Nat → Nat → Bool} (hC : CL M n e P) (hn : n ≤ 24) (hk : k ≤ 3) (ht : t ≤ 24) (hv : v ≤ 24) : wp (f_X0_keepFact M (Int32.ofNat k) (Int32.ofNat t) (Int32.ofNat v)) (fun N => CL N n e (fun s a => P s a && fh k t v s a)) := by
  unfold f_X0_keepFact
  refine wp_ieq (y := 0) (by omega) (by omega) (fun h => ?_) (fun h0 => ?_)
  · subst h
    exact wp_call (c_keepAt hC hn (by omega) (by omega)) (fun N hN => wp_some hN)
  refine wp_ieq (y := 1) (by omega) (by omega) (fun h => ?_) (fun h1 => ?_)
  · subst h
    refine wp_call (c_keepAhead (k := 1) hC hn (by omega) (by omega) hv) (fun N hN => wp_some (hN.cong (fun s a hs ha => ?_)))
    show (P s a && _) = (P s a && (!decide (t ≤ s ∧ s ≤ v) || ah 1 s a))
    congr 3
    rw [decide_eq_decide]
    omega
  refine wp_ieq (y := 2) (by omega) (by omega) (fun h => ?_) (fun h2 => ?_)
  · subst h
    exact wp_call (c_keepLevel hC hn (by omega)) (fun N hN => wp_some hN)
  · have h3 : k = 3 := by omega
    subst h3
    refine wp_call (c_keepNotBehind hC hn (by omega) hv) (fun N hN => wp_some (hN.cong (fun s a hs ha => ?_)))
    show (P s a && _) = (P s a && (!decide (t ≤ s ∧ s ≤ v) || decide (s ≤ 2 * a)))
    congr 3
    rw [decide_eq_decide]
    omega
theorem c_layFitting_13 {o r n e : Nat} {S : Nat → Nat} {P : Nat → Nat → Bool} (hn : n ≤ 24) (hr : r ≤ n) (hS : ∀ i, i < r → S i ≤ 1) : ∀ (m i : Nat) (M : am_M), i ≤ r → r + 1 ≤ m + i → M.1 1 o 0 6 = Int32.ofNat r → (∀ j, j < r → M.1 208 o 0 j = Int32.ofNat (S j)) → CL M n e (fun t a => P t a && decide (i < t ∨ a = sm S t)) → wp (l_X0_layFitting_13 o m (Int32.ofNat (sm S i)) (Int32.ofNat i) M) (fun N => CL N n e (fun t a => P t a && decide (r < t ∨ a = sm S t))) := by
  intro m
  induction m with
  | zero => intro i M h1 h2; omega
  | succ m ih =>
    intro i M hi hm h6 h8 hC
    rw [l_X0_layFitting_13, h6]
    refine wp_le (by omega) (by omega) (fun h' => ?_) (fun hlt => ?_)
    · have e1 : i = r := by omega
      subst e1
      exact wp_some hC
    refine wp_inb (by omega) (by omega) ?_
    rw [i_cl (by omega), h8 i hlt, i_add, i_s]
    have b1 := sm_le1 hS (i + 1) (by omega)
    have b2 : sm S (i + 1) = sm S i + S i := rfl
    rw [← b2]
    refine wp_let (wp_call (wp_km (c_keepAt hC hn (by omega) (by omega)) fr_f_X0_keepAt) (fun N hN => wp_let ?_))
    obtain ⟨hN, hk⟩ := hN
    refine ih (i + 1) N (by omega) (by omega) ((hk.i _ _ _ _ rfl).trans h6) (fun j hj => (hk.i _ _ _ _ rfl).trans (h8 j hj)) (hN.cong (fun t a ht ha => ?_))
    show (P t a && decide (i < t ∨ a = sm S t) && (!decide (t = i + 1) || decide (a = sm S (i + 1)))) = (P t a && decide (i + 1 < t ∨ a = sm S t))
    rw [Bool.and_assoc]
    congr 1
    by_cases hc : t = i + 1
    · subst hc
      rw [decide_eq_true (p := i < i + 1 ∨ a = sm S (i + 1)) (by omega)]
      simp
    · rw [decide_eq_false hc]
      simp only [Bool.not_false, Bool.true_or, Bool.and_true]
      rw [decide_eq_decide]
      omega
theorem c_layFitting_46 {o f n e : Nat} {K T V : Nat → Nat} {P : Nat → Nat → Bool} (hn : n ≤ 24) (hf : f ≤ 4) (hF : ∀ i, i < f → K i ≤ 3 ∧ T i ≤ 24 ∧ V i ≤ 24) : ∀ (m i : Nat) (M : am_M), i ≤ f → f + 1 ≤ m + i → M.1 1 o 0 9 = Int32.ofNat f → (∀ j, j < f → M.1 210 o 0 j = Int32.ofNat (K j) ∧ M.1 211 o 0 j = Int32.ofNat (T j) ∧ M.1 212 o 0 j = Int32.ofNat (V j)) → CL M n e (fun t a => P t a && FA K T V i t a) → wp (l_X0_layFitting_46 o m (Int32.ofNat i) M) (fun N => CL N n e (fun t a => P t a && FA K T V f t a)) := by
  intro m
  induction m with
  | zero => intro i M h1 h2; omega
  | succ m ih =>
    intro i M hi hm h6 h8 hC
    rw [l_X0_layFitting_46, h6]
    refine wp_le (by omega) (by omega) (fun h' => ?_) (fun hlt => ?_)
    · have e1 : i = f := by omega
      subst e1
      exact wp_some hC
    obtain ⟨a1, a2, a3⟩ := h8 i hlt
    obtain ⟨b1, b2, b3⟩ := hF i hlt
    refine wp_inb (by omega) (by omega) (wp_inb (by omega) (by omega) (wp_inb (by omega) (by omega) ?_))
    rw [i_cl (by omega), a1, a2, a3, i_s]
    refine wp_call (wp_km (c_keepFact hC hn b1 b2 b3) fr_f_X0_keepFact) (fun N hN => wp_let ?_)
    obtain ⟨hN, hk⟩ := hN
    refine ih (i + 1) N (by omega) (by omega) ((hk.i _ _ _ _ rfl).trans h6) (fun j hj => ?_) (hN.cong (fun t a ht ha => ?_))
    · obtain ⟨c1, c2, c3⟩ := h8 j hj
      exact ⟨(hk.i _ _ _ _ rfl).trans c1, (hk.i _ _ _ _ rfl).trans c2, (hk.i _ _ _ _ rfl).trans c3⟩
    · exact Bool.and_assoc _ _ _
theorem PH_0 (A B : Nat → Nat) : ∀ j a, PH A B j 0 a = decide (a = 0)
  | 0, a => by
    show decide (0 = 0 ∧ a = 0) = _
    rw [decide_eq_decide]
    omega
  | j + 1, a => by
    rw [PH, if_pos (Nat.zero_le _), PH_0 A B j a]
theorem c_layFit {M : am_M} {o : Nat} {D : dd} (w : WF D) (h : DR M o D) : wp (f_X0_layFitting M o) (fun N => CL N (dn D) (de D) (PF D)) := by
  obtain ⟨w1, w2, w3, w4, w5, w6, w7, w8, w9, w10⟩ := id w
  obtain ⟨h1, h2, h3, h4, h5, h6, h7, h8, h9, h10⟩ := id h
  unfold f_X0_layFitting
  refine wp_call (wp_km (c_layHeaps (by decide) w1 w5 (h.HO w)) fr_f_X0_layHeaps) (fun N hN => ?_)
  obtain ⟨hN, hk⟩ := hN
  have hN : CL N (dn D) (de D) (DP D) := hN
  refine wp_call (wp_km (c_layFitting_13 (P := DP D) w5 w6 w7 1000 0 N (by omega) (by omega) ((hk.i _ _ _ _ rfl).trans h5) (fun j hj => (hk.i _ _ _ _ rfl).trans (h7 j hj)) (hN.cong (fun t a ht ha => ?_))) (fr_l_X0_layFitting_13 _ _ _ _)) (fun N2 hN2 => ?_)
  · unfold DP
    by_cases hc : t = 0
    · subst hc
      rw [PH_0]
      show decide (a = 0) = (decide (a = 0) && decide (0 < 0 ∨ a = 0))
      by_cases ha0 : a = 0
      · simp [ha0]
      · simp [ha0]
    · rw [decide_eq_true (p := 0 < t ∨ a = sm (dS D) t) (by omega), Bool.and_true]
  obtain ⟨hN2, hk2⟩ := hN2
  refine wp_call (c_layFitting_46 (P := fun t a => DP D t a && decide (dr D < t ∨ a = sm (dS D) t)) w5 w9 w10 1000 0 N2 (by omega) (by omega) ((hk2.i _ _ _ _ rfl).trans ((hk.i _ _ _ _ rfl).trans h8)) (fun j hj => ?_) (hN2.cong (fun t a ht ha => ?_))) (fun N3 hN3 => wp_some hN3)
  · obtain ⟨c1, c2, c3⟩ := h9 j hj
    exact ⟨(hk2.i _ _ _ _ rfl).trans ((hk.i _ _ _ _ rfl).trans c1), (hk2.i _ _ _ _ rfl).trans ((hk.i _ _ _ _ rfl).trans c2), (hk2.i _ _ _ _ rfl).trans ((hk.i _ _ _ _ rfl).trans c3)⟩
  · show _ = (_ && true)
    rw [Bool.and_true]
theorem c_byTwos_2 {n e k : Nat} {P : Nat → Nat → Bool} (hn : n ≤ 24) (hk : k ≤ 9) : ∀ (m j : Nat) (M : am_M), 1 ≤ m → 1 ≤ j → 14 ≤ m + j → j ≤ 13 → CL M n e (fun s a => P s a && (!decide (s % 2 = 0 ∧ 2 ≤ s ∧ s < 2 * j) || ah k s a)) → wp (l_X0_keepAheadByTwos_2 (Int32.ofNat k) m (Int32.ofNat (2 * j)) M) (fun N => CL N n e (fun s a => P s a && (!decide (s % 2 = 0 ∧ 2 ≤ s ∧ s ≤ n) || ah k s a))) := by
  intro m
  induction m with
  | zero => intro j M h1 h2; omega
  | succ m ih =>
    intro j M _ hj hm hj2 hC
    rw [l_X0_keepAheadByTwos_2, hC.1]
    refine wp_lt (by omega) (by omega) (fun h => wp_some (hC.cong (fun s a hs ha => ?_))) (fun h => ?_)
    · rw [show decide (s % 2 = 0 ∧ 2 ≤ s ∧ s < 2 * j) = decide (s % 2 = 0 ∧ 2 ≤ s ∧ s ≤ n) from by rw [decide_eq_decide]; omega]
    refine wp_call (c_keepAhead hC hn hk (by omega) (by omega)) (fun N hN => wp_let ?_)
    rw [show (2 : Int32) = Int32.ofNat 2 from rfl, i_add, show 2 * j + 2 = 2 * (j + 1) from by omega]
    refine ih (j + 1) N (by omega) (by omega) (by omega) (by omega) (hN.cong (fun s a hs ha => ?_))
    show (P s a && (!decide (s % 2 = 0 ∧ 2 ≤ s ∧ s < 2 * j) || ah k s a) && (!decide (2 * j ≤ s ∧ s ≤ 2 * j ∧ s ≤ n) || ah k s a)) = (P s a && (!decide (s % 2 = 0 ∧ 2 ≤ s ∧ s < 2 * (j + 1)) || ah k s a))
    by_cases hc : s = 2 * j
    · rw [decide_eq_false (p := s % 2 = 0 ∧ 2 ≤ s ∧ s < 2 * j) (by omega), decide_eq_true (p := 2 * j ≤ s ∧ s ≤ 2 * j ∧ s ≤ n) (by omega), decide_eq_true (p := s % 2 = 0 ∧ 2 ≤ s ∧ s < 2 * (j + 1)) (by omega)]
      simp
    · rw [decide_eq_false (p := 2 * j ≤ s ∧ s ≤ 2 * j ∧ s ≤ n) (by omega), show decide (s % 2 = 0 ∧ 2 ≤ s ∧ s < 2 * (j + 1)) = decide (s % 2 = 0 ∧ 2 ≤ s ∧ s < 2 * j) from by rw [decide_eq_decide]; omega]
      simp
theorem c_byTwos {M : am_M} {n e k : Nat} {P : Nat → Nat → Bool} (hC : CL M n e P) (hn : n ≤ 24) (hk : k ≤ 9) : wp (f_X0_keepAheadByTwos M (Int32.ofNat k)) (fun N => CL N n e (fun s a => P s a && (!decide (1 ≤ s ∧ (s % 2 = 0 ∨ s = n)) || ah k s a))) := by
  unfold f_X0_keepAheadByTwos
  refine wp_call (c_byTwos_2 (P := P) hn hk 1000 1 M (by omega) (by omega) (by omega) (by omega) (hC.cong (fun s a hs ha => ?_))) (fun N hN => ?_)
  · rw [decide_eq_false (p := s % 2 = 0 ∧ 2 ≤ s ∧ s < 2 * 1) (by omega)]
    simp
  rw [hN.1]
  have e1 : (if (1 : Int32) < Int32.ofNat n then Int32.ofNat n else (1 : Int32)) = Int32.ofNat (max 1 n) := by
    by_cases h : 1 < n
    · rw [if_pos (by rw [show (1 : Int32) = Int32.ofNat 1 from rfl, i_lt (by omega) (by omega)]; exact h)]
      congr 1
      omega
    · rw [if_neg (by rw [show (1 : Int32) = Int32.ofNat 1 from rfl, i_lt (by omega) (by omega)]; exact h), show max 1 n = 1 from by omega]
      rfl
  rw [e1]
  refine wp_call (c_keepAhead hN hn hk (by omega) (by omega)) (fun N' hN' => wp_some (hN'.cong (fun s a hs ha => ?_)))
  show (P s a && (!decide (s % 2 = 0 ∧ 2 ≤ s ∧ s ≤ n) || ah k s a) && (!decide (max 1 n ≤ s ∧ s ≤ n ∧ s ≤ n) || ah k s a)) = (P s a && (!decide (1 ≤ s ∧ (s % 2 = 0 ∨ s = n)) || ah k s a))
  by_cases hc : 1 ≤ s ∧ (s % 2 = 0 ∨ s = n)
  · rw [decide_eq_true hc]
    by_cases h2 : s = n
    · rw [decide_eq_true (p := max 1 n ≤ s ∧ s ≤ n ∧ s ≤ n) (by omega)]
      cases P s a <;> cases ah k s a <;> simp
    · rw [decide_eq_true (p := s % 2 = 0 ∧ 2 ≤ s ∧ s ≤ n) (by omega)]
      cases P s a <;> cases ah k s a <;> simp
  · rw [decide_eq_false hc, decide_eq_false (p := s % 2 = 0 ∧ 2 ≤ s ∧ s ≤ n) (by omega), decide_eq_false (p := max 1 n ≤ s ∧ s ≤ n ∧ s ≤ n) (by omega)]
    simp
