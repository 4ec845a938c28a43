/-! the class's cells: laid and kept -/
def CL (M : am_M) (n e : Nat) (P : Nat → Nat → Bool) : Prop := M.1 0 0 0 0 = Int32.ofNat n ∧ M.1 0 0 0 1 = Int32.ofNat e ∧ ∀ t a, t ≤ n → a ≤ 24 → bt (M.1 103 0 0 t) a = P t a
def MK (M : am_M) (n : Nat) (mk : Nat → Nat → Bool) : Prop := ∀ t a, t ≤ n → a ≤ 24 → bt (M.1 104 0 0 t) a = mk t a
theorem CL.cong {M : am_M} {n e : Nat} {P Q : Nat → Nat → Bool} (h : CL M n e P) (hq : ∀ t a, t ≤ n → a ≤ 24 → P t a = Q t a) : CL M n e Q := ⟨h.1, h.2.1, fun t a h1 h2 => (h.2.2 t a h1 h2).trans (hq t a h1 h2)⟩
theorem CL.mv {M N : am_M} {n e : Nat} {P : Nat → Nat → Bool} {S : List (Nat × Option Nat × Option Nat)} (h : CL M n e P) (hk : keeps S M N) (h0 : kpS S 0 0 0 = false) (h1 : kpS S 0 0 1 = false) (h2 : ∀ j, kpS S 103 0 j = false) : CL N n e P :=
  ⟨(hk.i 0 0 0 0 h0).trans h.1, (hk.i 0 0 0 1 h1).trans h.2.1, fun t a ht ha => by rw [hk.i 103 0 0 t (h2 t)]; exact h.2.2 t a ht ha⟩
theorem CL.upd {M N : am_M} {n e : Nat} {P : Nat → Nat → Bool} (h : CL M n e P) (hk : keeps [(103, some 0, none)] M N) {c : Nat → Prop} [DecidablePred c] {g : Nat → Int32} {G : Nat → Nat → Bool} (hN : ∀ s, N.1 103 0 0 s = if c s then M.1 103 0 0 s &&& g s else M.1 103 0 0 s) (hg : ∀ s a, s ≤ n → c s → a ≤ 24 → bt (g s) a = G s a) : CL N n e (fun s a => P s a && (!decide (c s) || G s a)) := by
  refine ⟨(hk.i 0 0 0 0 rfl).trans h.1, (hk.i 0 0 0 1 rfl).trans h.2.1, fun t a ht ha => ?_⟩
  show bt (N.1 103 0 0 t) a = (P t a && (!decide (c t) || G t a))
  rw [hN t]
  by_cases hc : c t
  · rw [if_pos hc, bt_and, h.2.2 t a ht ha, hg t a ht hc ha, decide_eq_true hc]
    simp
  · rw [if_neg hc, h.2.2 t a ht ha, decide_eq_false hc]
    simp
theorem bt_one : ∀ a : Nat, a < 25 → bt 1 a = decide (a = 0) := by decide +kernel
theorem c_layNothing (M : am_M) : wp (f_X0_layNothing M) (fun N => CL N 0 0 (PH (fun _ => 0) (fun _ => 0) 0)) := by
  unfold f_X0_layNothing
  refine wp_let (wp_let (wp_let (wp_some ⟨?_, ?_, fun t a ht ha => ?_⟩)))
  · rw [si_k (by decide), si_j (by decide), am_si_self]
    rfl
  · rw [si_k (by decide), am_si_self]
    rfl
  · have e : t = 0 := by omega
    subst e
    rw [show (0 : Int32).toNatClampNeg = 0 from rfl, am_si_self, bt_one a (by omega)]
    show decide (a = 0) = decide (0 = 0 ∧ a = 0)
    rw [decide_eq_decide]
    omega
def HB (e p q d : Nat) : Int32 := bb (Int32.ofNat e + (if (0 : Int32) < (Int32.ofNat d - Int32.ofNat q) then (Int32.ofNat d - Int32.ofNat q) else (0 : Int32))) (Int32.ofNat e + (if Int32.ofNat p < Int32.ofNat d then Int32.ofNat p else Int32.ofNat d))
theorem bt_HB {e p q d a : Nat} (he : e ≤ 24) (hp : p ≤ 24) (hq : q ≤ 24) (hd : d ≤ 24) (ha : a ≤ 24) : bt (HB e p q d) a = decide (e + d ≤ a + q ∧ e ≤ a ∧ a ≤ e + d ∧ a ≤ e + p) := by
  unfold HB
  rw [bt_bb _ _ ha, decide_eq_decide]
  have e1 : (Int32.ofNat e + (if (0 : Int32) < (Int32.ofNat d - Int32.ofNat q) then (Int32.ofNat d - Int32.ofNat q) else (0 : Int32))).toInt = ((e + (d - q) : Nat) : Int) := by
    by_cases h : q < d
    · rw [i_sub (by omega), if_pos (by rw [show (0 : Int32) = Int32.ofNat 0 from rfl, i_lt (by omega) (by omega)]; omega), i_add, i_ti (by omega)]
    · rw [if_neg (by rw [Int32.lt_iff_toInt_lt, t0, i_tsub (by rw [i_ti (by omega), i_ti (by omega)]; omega) (by rw [i_ti (by omega), i_ti (by omega)]; omega), i_ti (by omega), i_ti (by omega)]; omega), show (0 : Int32) = Int32.ofNat 0 from rfl, i_add, i_ti (by omega)]
      omega
  have e2 : (Int32.ofNat e + (if Int32.ofNat p < Int32.ofNat d then Int32.ofNat p else Int32.ofNat d)).toInt = ((e + min p d : Nat) : Int) := by
    by_cases h : p < d
    · rw [if_pos (by rw [i_lt (by omega) (by omega)]; exact h), i_add, i_ti (by omega)]
      omega
    · rw [if_neg (by rw [i_lt (by omega) (by omega)]; exact h), i_add, i_ti (by omega)]
      omega
  rw [e1, e2]
  omega
theorem c_layHeap_2 {n e p q : Nat} (hn : n + p + q ≤ 24) : ∀ (m d : Nat) (M : am_M), d ≤ p + q + 1 → p + q + 2 ≤ m + d → M.1 0 0 0 0 = Int32.ofNat n → M.1 0 0 0 1 = Int32.ofNat e → wp (l_X0_layHeap_2 (Int32.ofNat p) (Int32.ofNat q) m (Int32.ofNat d) M) (fun N => ∀ s, N.1 103 0 0 s = if n + d ≤ s ∧ s ≤ n + p + q then HB e p q (s - n) else M.1 103 0 0 s) := by
  intro m
  induction m with
  | zero => intro d M h1 h2; omega
  | succ m ih =>
    intro d M hd hm h0 h1
    rw [l_X0_layHeap_2, h0, h1, i_add p q, i_add n d]
    refine wp_lt (by omega) (by omega) (fun h => wp_some (fun s => by rw [if_neg (by omega)])) (fun hle => ?_)
    refine wp_le (x := 25) (by omega) (by omega) (fun h => absurd h (by omega)) (fun _ => ?_)
    refine wp_be (f_bits _ _ _) ?_
    refine wp_inb (by omega) (by omega) ?_
    rw [i_cl (by omega)]
    refine wp_let (wp_let ?_)
    rw [i_s]
    refine wp_mono (ih (d + 1) _ (by omega) (by omega) (by rw [si_k (by decide)]; exact h0) (by rw [si_k (by decide)]; exact h1)) (fun N hN s => ?_)
    rw [hN s, si_e]
    by_cases hs : s = n + d
    · subst hs
      rw [if_neg (by omega), if_pos rfl, if_pos (show n + d ≤ n + d ∧ n + d ≤ n + p + q from by omega), show n + d - n = d from by omega]
      rfl
    · rw [if_neg hs]
      by_cases hc : n + d ≤ s ∧ s ≤ n + p + q
      · rw [if_pos hc, if_pos (by omega)]
      · rw [if_neg hc, if_neg (by omega)]
theorem i_min24 {x : Nat} (h : x ≤ 24) : (if Int32.ofNat x < (24 : Int32) then Int32.ofNat x else (24 : Int32)) = Int32.ofNat x := by
  by_cases hc : x < 24
  · rw [if_pos (by rw [show (24 : Int32) = Int32.ofNat 24 from rfl, i_lt (by omega) (by omega)]; exact hc)]
  · have e : x = 24 := by omega
    subst e
    rw [if_neg (by decide)]
    rfl
theorem c_layHeap {M : am_M} {n e p q : Nat} {P : Nat → Nat → Bool} (hC : CL M n e P) (hn : n + p + q ≤ 24) (he : e + p ≤ 24) : wp (f_X0_layHeap M (Int32.ofNat p) (Int32.ofNat q)) (fun N => CL N (n + p + q) (e + p) (fun t a => if t ≤ n then P t a else decide (e ≤ a ∧ a ≤ e + p ∧ a + n ≤ t + e ∧ t + e ≤ a + n + q))) := by
  unfold f_X0_layHeap
  refine wp_call (wp_km (c_layHeap_2 hn 1000 1 M (by omega) (by omega) hC.1 hC.2.1) (fr_l_X0_layHeap_2 _ _ _)) (fun N hN => ?_)
  obtain ⟨hN, hk⟩ := hN
  have k0 : N.1 0 0 0 0 = Int32.ofNat n := (hk.i 0 0 0 0 rfl).trans hC.1
  have k1 : N.1 0 0 0 1 = Int32.ofNat e := (hk.i 0 0 0 1 rfl).trans hC.2.1
  refine wp_let (wp_let (wp_some ⟨?_, ?_, fun t a ht ha => ?_⟩))
  · rw [si_j (by decide), am_si_self, k0, i_add, i_add, i_min24 hn]
  · rw [am_si_self, si_j (by decide), k1, i_add, i_min24 he]
  · rw [si_k (by decide), si_k (by decide), hN t]
    by_cases hc : t ≤ n
    · rw [if_neg (by omega)]
      simp only [hc, if_true]
      exact hC.2.2 t a hc ha
    · rw [if_pos (by omega), bt_HB (by omega) (by omega) (by omega) (by omega) ha]
      simp only [hc, if_false]
      rw [decide_eq_decide]
      omega
theorem kpS_ne {S : List (Nat × Option Nat × Option Nat)} {k : Nat} (h : ∀ e ∈ S, e.1 ≠ k) (o j : Nat) : kpS S k o j = false := by
  unfold kpS
  rw [List.any_eq_false]
  intro e he
  have := h e he
  simp only [Bool.and_eq_true, kp_beq]
  intro hc
  exact this hc.1.1
/-- heaps by an order: where it lies, and what it says -/
def HO (M : am_M) (o k p q h : Nat) (O A B : Nat → Nat) : Prop := M.1 1 o 0 0 = Int32.ofNat h ∧ ∀ i, i < h → M.1 k p q i = Int32.ofNat (O i) ∧ O i < 4 ∧ M.1 203 o 0 (O i) = Int32.ofNat (A (O i)) ∧ M.1 204 o 0 (O i) = Int32.ofNat (B (O i))
theorem HO.mv {M N : am_M} {o k p q h : Nat} {O A B : Nat → Nat} {S : List (Nat × Option Nat × Option Nat)} (hH : HO M o k p q h O A B) (hk : keeps S M N) (h1 : kpS S 1 o 0 = false) (h2 : ∀ j, kpS S k p j = false) (h3 : ∀ j, kpS S 203 o j = false) (h4 : ∀ j, kpS S 204 o j = false) : HO N o k p q h O A B := by
  refine ⟨(hk.i 1 o 0 0 h1).trans hH.1, fun i hi => ?_⟩
  obtain ⟨a1, a2, a3, a4⟩ := hH.2 i hi
  exact ⟨(hk.i k p q i (h2 i)).trans a1, a2, (hk.i 203 o 0 _ (h3 _)).trans a3, (hk.i 204 o 0 _ (h4 _)).trans a4⟩
theorem sm_mono {f : Nat → Nat} {i j : Nat} (h : i ≤ j) : sm f i ≤ sm f j := sm_le h
theorem sm_AB (A B : Nat → Nat) : ∀ j, sm A j ≤ sm (fun i => A i + B i) j
  | 0 => Nat.le_refl _
  | j + 1 => by
    have := sm_AB A B j
    simp only [sm]
    omega
theorem c_layHeaps_6 {o k p q h : Nat} {O A B : Nat → Nat} (hk : k ≠ 0 ∧ k ≠ 103) (hh : h ≤ 4) (hn : sm (fun i => A (O i) + B (O i)) h ≤ 24) : ∀ (m j : Nat) (M : am_M), j ≤ h → h + 1 ≤ m + j → HO M o k p q h O A B → CL M (sm (fun i => A (O i) + B (O i)) j) (sm (fun i => A (O i)) j) (PH (fun i => A (O i)) (fun i => B (O i)) j) → wp (l_X0_layHeaps_6 k p q 4 o m (Int32.ofNat j) M) (fun N => CL N (sm (fun i => A (O i) + B (O i)) h) (sm (fun i => A (O i)) h) (PH (fun i => A (O i)) (fun i => B (O i)) h)) := by
  intro m
  induction m with
  | zero => intro j M h1 h2; omega
  | succ m ih =>
    intro j M hj hm hH hC
    rw [l_X0_layHeaps_6, hH.1]
    refine wp_le (by omega) (by omega) (fun h' => ?_) (fun hlt => ?_)
    · have e : j = h := by omega
      subst e
      exact wp_some hC
    refine wp_le (x := 4) (by omega) (by omega) (fun h => absurd h (by omega)) (fun _ => ?_)
    obtain ⟨a1, a2, a3, a4⟩ := hH.2 j hlt
    rw [i_cl (by omega), a1, i_cl (by omega), a3, a4]
    refine wp_inb (by omega) (by omega) (wp_inb a2 (by omega) (wp_inb (by omega) (by omega) (wp_inb a2 (by omega) ?_)))
    have b1 : sm (fun i => A (O i) + B (O i)) (j + 1) ≤ 24 := Nat.le_trans (sm_le (by omega)) hn
    have b2 : sm (fun i => A (O i) + B (O i)) (j + 1) = sm (fun i => A (O i) + B (O i)) j + A (O j) + B (O j) := by rw [sm, Nat.add_assoc]
    have b3 := sm_AB (fun i => A (O i)) (fun i => B (O i)) (j + 1)
    have b4 : sm (fun i => A (O i)) (j + 1) = sm (fun i => A (O i)) j + A (O j) := rfl
    refine wp_call (wp_km (c_layHeap hC (by omega) (by omega)) fr_f_X0_layHeap) (fun N hN => ?_)
    obtain ⟨hN, hkp⟩ := hN
    refine wp_let ?_
    rw [i_s]
    refine ih (j + 1) N (by omega) (by omega) (hH.mv hkp rfl (kpS_ne (by simp [hk.1.symm, hk.2.symm]) _) (fun _ => rfl) (fun _ => rfl)) ?_
    rw [b2, b4]
    exact hN
theorem c_layHeaps {M : am_M} {o k p q h : Nat} {O A B : Nat → Nat} (hk : k ≠ 0 ∧ k ≠ 103) (hh : h ≤ 4) (hn : sm (fun i => A (O i) + B (O i)) h ≤ 24) (hH : HO M o k p q h O A B) : wp (f_X0_layHeaps M o k p q 4) (fun N => CL N (sm (fun i => A (O i) + B (O i)) h) (sm (fun i => A (O i)) h) (PH (fun i => A (O i)) (fun i => B (O i)) h)) := by
  unfold f_X0_layHeaps
  refine wp_call (wp_km (c_layNothing M) fr_f_X0_layNothing) (fun N hN => ?_)
  obtain ⟨hN, hkp⟩ := hN
  refine wp_call (c_layHeaps_6 hk hh hn 1000 0 N (by omega) (by omega) (hH.mv hkp rfl (kpS_ne (by simp [hk.1.symm, hk.2.symm]) _) (fun _ => rfl) (fun _ => rfl)) hN) (fun N' hN' => wp_some hN')
theorem c_layShaken {M : am_M} {o n e : Nat} (hn : n ≤ 24) (he : e ≤ n) (h1 : M.1 1 o 0 1 = Int32.ofNat n) (h2 : M.1 1 o 0 2 = Int32.ofNat e) : wp (f_X0_layShaken M o) (fun N => CL N n e (PH (fun _ => e) (fun _ => n - e) 1)) := by
  unfold f_X0_layShaken
  refine wp_call (wp_km (c_layNothing M) fr_f_X0_layNothing) (fun N hN => ?_)
  obtain ⟨hN, hkp⟩ := hN
  rw [hkp.i 1 o 0 1 rfl, hkp.i 1 o 0 2 rfl, h1, h2, i_sub he]
  refine wp_call (c_layHeap hN (by omega) (by omega)) (fun N' hN' => wp_some ?_)
  have e1 : 0 + e + (n - e) = n := by omega
  rw [e1, Nat.zero_add] at hN'
  refine hN'.cong (fun t a ht ha => ?_)
  show (if t ≤ 0 then decide (t = 0 ∧ a = 0) else decide (0 ≤ a ∧ a ≤ e ∧ a + 0 ≤ t + 0 ∧ t + 0 ≤ a + 0 + (n - e))) = (if t ≤ 0 then decide (t = 0 ∧ a = 0) else decide (0 ≤ a ∧ a ≤ 0 + e ∧ a + 0 ≤ t + 0 ∧ t + 0 ≤ a + 0 + (n - e)))
  rw [Nat.zero_add]
/-! keeping -/
theorem c_keepAt {M : am_M} {n e t x : Nat} {P : Nat → Nat → Bool} (hC : CL M n e P) (hn : n ≤ 24) (ht : t ≤ 100) (hx : x ≤ 100) : wp (f_X0_keepAt M (Int32.ofNat t) (Int32.ofNat x)) (fun N => CL N n e (fun s a => P s a && (!decide (s = t) || decide (a = x)))) := by
  refine wp_mono (wp_km (Q := fun N => ∀ s, s ≤ n → N.1 103 0 0 s = if s = t then M.1 103 0 0 s &&& bb (Int32.ofNat x) (Int32.ofNat x) else M.1 103 0 0 s) ?_ fr_f_X0_keepAt) (fun N hN => ?_)
  · unfold f_X0_keepAt
    rw [hC.1]
    refine wp_lt (by omega) (by omega) (fun h => wp_some (fun s hs => by rw [if_neg (by omega)])) (fun h => ?_)
    refine wp_inb (by omega) (by omega) (wp_be (f_bits _ _ _) (wp_inb (by omega) (by omega) (wp_let (wp_some (fun s hs => ?_)))))
    rw [i_cl (by omega), si_e]
    by_cases hc : s = t
    · rw [if_pos hc, if_pos hc, hc]
    · rw [if_neg hc, if_neg hc]
  · obtain ⟨hN, hk⟩ := hN
    refine ⟨(hk.i 0 0 0 0 rfl).trans hC.1, (hk.i 0 0 0 1 rfl).trans hC.2.1, fun s a hs ha => ?_⟩
    show bt (N.1 103 0 0 s) a = (P s a && (!decide (s = t) || decide (a = x)))
    rw [hN s hs]
    by_cases hc : s = t
    · rw [if_pos hc, bt_and, hC.2.2 s a hs ha, bt_bb _ _ ha, i_ti (by omega), decide_eq_true hc]
      congr 1
      simp only [Bool.not_true, Bool.false_or]
      rw [decide_eq_decide]
      omega
    · rw [if_neg hc, hC.2.2 s a hs ha, decide_eq_false hc]
      simp
theorem c_keepLevel {M : am_M} {n e t : Nat} {P : Nat → Nat → Bool} (hC : CL M n e P) (hn : n ≤ 24) (ht : t ≤ 100) : wp (f_X0_keepLevel M (Int32.ofNat t)) (fun N => CL N n e (fun s a => P s a && (!decide (s = t) || decide (2 * a = s)))) := by
  refine wp_mono (wp_km (Q := fun N => ∀ s, s ≤ n → N.1 103 0 0 s = if s = t then M.1 103 0 0 s &&& LB s else M.1 103 0 0 s) ?_ fr_f_X0_keepLevel) (fun N hN => ?_)
  · unfold f_X0_keepLevel
    rw [hC.1]
    refine wp_lt (by omega) (by omega) (fun h => wp_some (fun s hs => by rw [if_neg (by omega)])) (fun h => ?_)
    refine wp_inb (by omega) (by omega) (wp_be (f_levelB _ (by omega)) (wp_inb (by omega) (by omega) (wp_let (wp_some (fun s hs => ?_)))))
    rw [i_cl (by omega), si_e]
    by_cases hc : s = t
    · rw [if_pos hc, if_pos hc, hc]
    · rw [if_neg hc, if_neg hc]
  · obtain ⟨hN, hk⟩ := hN
    refine ⟨(hk.i 0 0 0 0 rfl).trans hC.1, (hk.i 0 0 0 1 rfl).trans hC.2.1, fun s a hs ha => ?_⟩
    show bt (N.1 103 0 0 s) a = (P s a && (!decide (s = t) || decide (2 * a = s)))
    rw [hN s hs]
    by_cases hc : s = t
    · rw [if_pos hc, bt_and, hC.2.2 s a hs ha, bt_LB (by omega) ha, decide_eq_true hc]
      simp
    · rw [if_neg hc, hC.2.2 s a hs ha, decide_eq_false hc]
      simp
theorem c_keepAhead {M : am_M} {n e k u v : Nat} {P : Nat → Nat → Bool} (hC : CL M n e P) (hn : n ≤ 24) (hk : k ≤ 9) (hu : u ≤ 100) (hv : v ≤ 24) : wp (f_X0_keepAhead M (Int32.ofNat k) (Int32.ofNat u) (Int32.ofNat v)) (fun N => CL N n e (fun s a => P s a && (!decide (u ≤ s ∧ s ≤ v ∧ s ≤ n) || ah k s a))) := by
  unfold f_X0_keepAhead
  refine wp_call (wp_km (c_X0_keepAhead_3 hn hk hv 1000 u M (by omega) (by omega) (by omega) hC.1) (fr_l_X0_keepAhead_3 _ _ _)) (fun N hN => wp_some ?_)
  exact hC.upd hN.2 (c := fun s => u ≤ s ∧ s ≤ v ∧ s ≤ n) hN.1 (fun s a hs _ ha => bt_AB hk (by omega) ha)
theorem c_keepNotBehind {M : am_M} {n e u v : Nat} {P : Nat → Nat → Bool} (hC : CL M n e P) (hn : n ≤ 24) (hu : u ≤ 100) (hv : v ≤ 24) : wp (f_X0_keepNotBehind M (Int32.ofNat u) (Int32.ofNat v)) (fun N => CL N n e (fun s a => P s a && (!decide (u ≤ s ∧ s ≤ v ∧ s ≤ n) || decide (s ≤ 2 * a)))) := by
  unfold f_X0_keepNotBehind
  refine wp_call (wp_km (c_X0_keepNotBehind_2 hn hv 1000 u M (by omega) (by omega) (by omega) hC.1) (fr_l_X0_keepNotBehind_2 _ _ _)) (fun N hN => wp_some ?_)
  exact hC.upd hN.2 (c := fun s => u ≤ s ∧ s ≤ v ∧ s ≤ n) hN.1 (fun s a hs _ ha => bt_NB (by omega) ha)
theorem c_closeLevel {M : am_M} {n e u v : Nat} {P : Nat → Nat → Bool} (hC : CL M n e P) (hn : n ≤ 24) (hu : u ≤ 100) (hv : v ≤ 24) : wp (f_X0_closeLevel M (Int32.ofNat u) (Int32.ofNat v)) (fun N => CL N n e (fun s a => P s a && (!decide (u ≤ s ∧ s ≤ v ∧ s ≤ n) || !decide (2 * a = s)))) := by
  unfold f_X0_closeLevel
  refine wp_call (wp_km (c_X0_closeLevel_2 hn hv 1000 u M (by omega) (by omega) (by omega) hC.1) (fr_l_X0_closeLevel_2 _ _ _)) (fun N hN => wp_some ?_)
  exact hC.upd hN.2 (c := fun s => u ≤ s ∧ s ≤ v ∧ s ≤ n) hN.1 (fun s a hs _ ha => by rw [bt_not _ (by omega), bt_LB (by omega) ha])
theorem c_closeAhead {M : am_M} {n e k : Nat} {P : Nat → Nat → Bool} (hC : CL M n e P) (hn : n ≤ 24) (hk : k ≤ 9) : wp (f_X0_closeAhead M (Int32.ofNat k)) (fun N => CL N n e (fun s a => P s a && (!decide (1 ≤ s ∧ s ≤ n) || !ah k s a))) := by
  unfold f_X0_closeAhead
  refine wp_call (wp_km (c_X0_closeAhead_2 hn hk 1000 1 M (by omega) (by omega) (by omega) hC.1) (fr_l_X0_closeAhead_2 _ _ _)) (fun N hN => wp_some ?_)
  exact hC.upd hN.2 (c := fun s => 1 ≤ s ∧ s ≤ n) hN.1 (fun s a hs _ ha => by rw [bt_not _ (by omega), bt_AB hk (by omega) ha])
theorem c_keepFromBehind {M : am_M} {n e k : Nat} {P : Nat → Nat → Bool} (hC : CL M n e P) (hn : n ≤ 24) (he : e ≤ 24) (hk : k ≤ 9) : wp (f_X0_keepAheadFromBehind M (Int32.ofNat k)) (fun N => CL N n e (fun s a => P s a && (!decide (0 ≤ s ∧ s < n) || decide (a + (k * (n - s) / (k + 1) + 1) ≤ e)))) := by
  unfold f_X0_keepAheadFromBehind
  refine wp_call (wp_km (c_X0_keepAheadFromBehind_2 hn hk 1000 0 M (by omega) (by omega) (by omega) hC.1 hC.2.1) (fr_l_X0_keepAheadFromBehind_2 _ _ _)) (fun N hN => wp_some ?_)
  exact hC.upd hN.2 (c := fun s => 0 ≤ s ∧ s < n) hN.1 (fun s a hs _ ha => by
    have h1 := m_le hk (Nat.le_trans (Nat.sub_le n s) hn)
    have h2 : k * (n - s) / (k + 1) ≤ k * (n - s) := Nat.div_le_self _ _
    rw [bt_FB he (by omega) ha])
theorem c_keepUntilSure {M : am_M} {n e k : Nat} {P : Nat → Nat → Bool} (hC : CL M n e P) (hn : n ≤ 24) (hk : k ≤ 9) : wp (f_X0_keepAheadUntilSure M (Int32.ofNat k)) (fun N => CL N n e (fun s a => P s a && (!decide (1 ≤ s ∧ s ≤ n) || (ah k s a || decide (n < 2 * a))))) := by
  unfold f_X0_keepAheadUntilSure
  refine wp_call (wp_km (c_X0_keepAheadUntilSure_2 hn hk 1000 1 M (by omega) (by omega) (by omega) hC.1) (fr_l_X0_keepAheadUntilSure_2 _ _ _)) (fun N hN => wp_some ?_)
  exact hC.upd hN.2 (c := fun s => 1 ≤ s ∧ s ≤ n) hN.1 (fun s a hs _ ha => by rw [bt_or, bt_AB hk (by omega) ha, bt_SB hn ha])
theorem c_keepNotAbove {M : am_M} {n e : Nat} {g : Int32} {P : Nat → Nat → Bool} (hC : CL M n e P) (hn : n ≤ 24) (h1 : -1 ≤ g.toInt) (h2 : g.toInt ≤ 24) : wp (f_X0_keepNotAbove M g) (fun N => CL N n e (fun s a => P s a && (!decide (0 ≤ s ∧ s ≤ n) || decide ((2 * a : Int) - s ≤ g.toInt)))) := by
  unfold f_X0_keepNotAbove
  refine wp_call (wp_km (c_X0_keepNotAbove_2 hn 1000 0 M (by omega) (by omega) (by omega) hC.1) (fr_l_X0_keepNotAbove_2 _ _ _)) (fun N hN => wp_some ?_)
  exact hC.upd hN.2 (c := fun s => 0 ≤ s ∧ s ≤ n) hN.1 (fun s a hs _ ha => bt_AV h1 h2 (by omega) ha)
theorem c_markAhead {M : am_M} {n e : Nat} {P : Nat → Nat → Bool} (hC : CL M n e P) (hn : n ≤ 24) : wp (f_X0_markAhead M) (fun N => MK N n (ah 1)) := by
  unfold f_X0_markAhead
  refine wp_call (c_X0_markAhead_2 hn 1000 0 M (by omega) (by omega) (by omega) hC.1) (fun N hN => wp_some (fun t a ht ha => ?_))
  rw [hN t, if_pos (by omega), bt_AB (by omega) (by omega) ha]
theorem c_markLevel {M : am_M} {n e : Nat} {P : Nat → Nat → Bool} (hC : CL M n e P) (hn : n ≤ 24) : wp (f_X0_markLevel M) (fun N => MK N n (fun t a => decide (0 < t ∧ 2 * a = t))) := by
  unfold f_X0_markLevel
  refine wp_let (wp_call (c_X0_markLevel_9 hn 1000 1 _ (by omega) (by omega) (by omega) (by rw [si_k (by decide)]; exact hC.1)) (fun N hN => wp_some (fun t a ht ha => ?_)))
  rw [hN t]
  by_cases h : 1 ≤ t
  · rw [if_pos (by omega), bt_LB (by omega) ha, decide_eq_decide]
    omega
  · have e : t = 0 := by omega
    subst e
    rw [if_neg (by omega), show (0 : Int32).toNatClampNeg = 0 from rfl, am_si_self, bt_0]
    symm
    rw [decide_eq_false_iff_not]
    omega
theorem c_markUnsure {M : am_M} {n e : Nat} {P : Nat → Nat → Bool} (hC : CL M n e P) (hn : n ≤ 24) : wp (f_X0_markUnsure M) (fun N => MK N n (us n)) := by
  unfold f_X0_markUnsure
  refine wp_call (wp_km (c_X0_markUnsure_2 hn 1000 0 M (by omega) (by omega) (by omega) hC.1) (fr_l_X0_markUnsure_2 _ _ _)) (fun N hN => ?_)
  obtain ⟨hN, hk⟩ := hN
  rw [hk.i 0 0 0 0 rfl, hC.1]
  refine wp_inb (by omega) (by omega) (wp_let (wp_some (fun t a ht ha => ?_)))
  rw [i_cl (by omega), si_e]
  unfold us
  by_cases h : t = n
  · rw [if_pos h, bt_0]
    symm
    rw [decide_eq_false_iff_not]
    omega
  · rw [if_neg h, hN t, if_pos (by omega), bt_UB hn (by omega) ha, decide_eq_decide]
    omega
