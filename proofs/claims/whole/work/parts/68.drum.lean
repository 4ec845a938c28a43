/-! what is done to a drum -/
def up (f : Nat → Nat) (i v : Nat) (j : Nat) : Nat := if j = i then v else f j
theorem up_e (f : Nat → Nat) (i v : Nat) : up f i v i = v := if_pos rfl
theorem up_n {f : Nat → Nat} {i v j : Nat} (h : j ≠ i) : up f i v j = f j := if_neg h
theorem sm_up {f : Nat → Nat} {i v n : Nat} (h : n ≤ i) : sm (up f i v) n = sm f n := sm_congr (fun a ha => up_n (by omega))
def dAddH (D : dd) (a b : Nat) : dd := ((dh D + 1, up (dA D) (dh D) a, up (dB D) (dh D) b, up (dO D) (dh D) (dh D)), D.2)
def dAddF (D : dd) (k t v : Nat) : dd := (D.1, D.2.1, (df D + 1, up (dK D) (df D) k, up (dT D) (df D) t, up (dV D) (df D) v), ds D)
def skp (f : Nat → Nat) (i j : Nat) : Nat := if j < i then f j else f (j + 1)
def dDrop (D : dd) (i : Nat) : dd := (D.1, D.2.1, (df D - 1, skp (dK D) i, skp (dT D) i, skp (dV D) i), ds D)
def tsp (i j x : Nat) : Nat := if x = i then j else if x = j then i else x
def dSwap (D : dd) (i j : Nat) : dd := ((dh D, dA D, dB D, fun x => dO D (tsp i j x)), D.2)
def dRead (D : dd) (x : Nat) : dd := (D.1, (dr D + 1, up (dS D) (dr D) x), D.2.2)
def dAgain (D : dd) : dd := (D.1, (0, dS D), D.2.2)
def dSeed (D : dd) (s : Int32) : dd := (D.1, D.2.1, D.2.2.1, s)
theorem dn_addH {D : dd} (w : WF D) (a b : Nat) : dn (dAddH D a b) = dn D + a + b := by
  show sm (fun i => up (dA D) (dh D) a (up (dO D) (dh D) (dh D) i) + up (dB D) (dh D) b (up (dO D) (dh D) (dh D) i)) (dh D + 1) = _
  rw [sm, up_e, up_e, up_e]
  have e : sm (fun i => up (dA D) (dh D) a (up (dO D) (dh D) (dh D) i) + up (dB D) (dh D) b (up (dO D) (dh D) (dh D) i)) (dh D) = dn D := sm_congr (fun i hi => by
    have := w.2.2.1 i hi
    rw [up_n (f := dO D) (by omega), up_n (by omega), up_n (by omega)])
  rw [e]
  omega
theorem de_addH {D : dd} (w : WF D) (a b : Nat) : de (dAddH D a b) = de D + a := by
  show sm (fun i => up (dA D) (dh D) a (up (dO D) (dh D) (dh D) i)) (dh D + 1) = _
  rw [sm, up_e, up_e]
  have e : sm (fun i => up (dA D) (dh D) a (up (dO D) (dh D) (dh D) i)) (dh D) = de D := sm_congr (fun i hi => by
    have := w.2.2.1 i hi
    rw [up_n (f := dO D) (by omega), up_n (by omega)])
  rw [e]
theorem WF.addH {D : dd} (w : WF D) {a b : Nat} (h4 : dh D < 4) (ha : a ≤ 9) (hb : b ≤ 9) (h1 : 1 ≤ a + b) (hn : dn D + a + b ≤ 24) (hr : dr D = 0) : WF (dAddH D a b) := by
  obtain ⟨w1, w2, w3, w4, w5, w6, w7, w8, w9, w10⟩ := id w
  refine ⟨h4, fun i hi => ?_, fun i hi => ?_, fun i j hi hj e => ?_, by rw [dn_addH w]; exact hn, ?_, fun i hi => ?_, fun t ht => ?_, w9, w10⟩
  · have hi : i < dh D + 1 := hi
    show up (dA D) (dh D) a i ≤ 9 ∧ up (dB D) (dh D) b i ≤ 9 ∧ 1 ≤ up (dA D) (dh D) a i + up (dB D) (dh D) b i
    by_cases e : i = dh D
    · subst e
      rw [up_e, up_e]
      exact ⟨ha, hb, h1⟩
    · rw [up_n e, up_n e]
      exact w2 i (by omega)
  · have hi : i < dh D + 1 := hi
    show up (dO D) (dh D) (dh D) i < dh D + 1
    by_cases e : i = dh D
    · subst e
      rw [up_e]
      omega
    · rw [up_n e]
      have := w3 i (by omega)
      omega
  · have hi : i < dh D + 1 := hi
    have hj : j < dh D + 1 := hj
    have e : up (dO D) (dh D) (dh D) i = up (dO D) (dh D) (dh D) j := e
    by_cases e1 : i = dh D
    · by_cases e2 : j = dh D
      · omega
      · rw [e1, up_e, up_n e2] at e
        have := w3 j (by omega)
        omega
    · by_cases e2 : j = dh D
      · rw [e2, up_e, up_n e1] at e
        have := w3 i (by omega)
        omega
      · rw [up_n e1, up_n e2] at e
        exact w4 i j (by omega) (by omega) e
  · show dr D ≤ _
    omega
  · have hi : i < dr D := hi
    omega
  · have ht : t ≤ dr D := ht
    have e : t = 0 := by omega
    subst e
    rw [DP_0]
    rfl
theorem WF.addF {D : dd} (w : WF D) {k t v : Nat} (h4 : df D < 4) (hk : k ≤ 3) (ht : t ≤ 24) (hv : v ≤ 24) : WF (dAddF D k t v) := by
  obtain ⟨w1, w2, w3, w4, w5, w6, w7, w8, w9, w10⟩ := id w
  refine ⟨w1, w2, w3, w4, w5, w6, w7, w8, h4, fun i hi => ?_⟩
  have hi : i < df D + 1 := hi
  show up (dK D) (df D) k i ≤ 3 ∧ up (dT D) (df D) t i ≤ 24 ∧ up (dV D) (df D) v i ≤ 24
  by_cases e : i = df D
  · subst e
    rw [up_e, up_e, up_e]
    exact ⟨hk, ht, hv⟩
  · rw [up_n e, up_n e, up_n e]
    exact w10 i (by omega)
theorem WF.drop {D : dd} (w : WF D) {i : Nat} (hi : i < df D) : WF (dDrop D i) := by
  obtain ⟨w1, w2, w3, w4, w5, w6, w7, w8, w9, w10⟩ := id w
  refine ⟨w1, w2, w3, w4, w5, w6, w7, w8, show df D - 1 ≤ 4 from by omega, fun j hj => ?_⟩
  have hj : j < df D - 1 := hj
  show skp (dK D) i j ≤ 3 ∧ skp (dT D) i j ≤ 24 ∧ skp (dV D) i j ≤ 24
  unfold skp
  by_cases e : j < i
  · rw [if_pos e, if_pos e, if_pos e]
    exact w10 j (by omega)
  · rw [if_neg e, if_neg e, if_neg e]
    exact w10 (j + 1) (by omega)
theorem tsp_lt {i j x h : Nat} (hi : i < h) (hj : j < h) (hx : x < h) : tsp i j x < h := by
  unfold tsp
  split
  · exact hj
  · split
    · exact hi
    · exact hx
theorem tsp_inj {i j x y : Nat} (h : tsp i j x = tsp i j y) : x = y := by
  unfold tsp at h
  repeat' split at h
  all_goals omega
theorem dn_swap {D : dd} (w : WF D) {i j : Nat} (hi : i < dh D) (hj : j < dh D) : dn (dSwap D i j) = dn D := by
  have e1 : dn (dSwap D i j) = sm (fun i => dA D i + dB D i) (dh D) := sm_perm (O := fun x => dO D (tsp i j x)) (fun i => dA D i + dB D i) (fun x hx => w.2.2.1 _ (tsp_lt hi hj hx)) (fun x y hx hy e => tsp_inj (w.2.2.2.1 _ _ (tsp_lt hi hj hx) (tsp_lt hi hj hy) e))
  have e2 : dn D = sm (fun i => dA D i + dB D i) (dh D) := sm_perm (fun i => dA D i + dB D i) w.2.2.1 w.2.2.2.1
  rw [e1, e2]
theorem de_swap {D : dd} (w : WF D) {i j : Nat} (hi : i < dh D) (hj : j < dh D) : de (dSwap D i j) = de D := by
  have e1 : de (dSwap D i j) = sm (dA D) (dh D) := sm_perm (O := fun x => dO D (tsp i j x)) (dA D) (fun x hx => w.2.2.1 _ (tsp_lt hi hj hx)) (fun x y hx hy e => tsp_inj (w.2.2.2.1 _ _ (tsp_lt hi hj hx) (tsp_lt hi hj hy) e))
  rw [e1, de_eq w.H]
theorem WF.swap {D : dd} (w : WF D) {i j : Nat} (hi : i < dh D) (hj : j < dh D) (hr : dr D = 0) : WF (dSwap D i j) := by
  obtain ⟨w1, w2, w3, w4, w5, w6, w7, w8, w9, w10⟩ := id w
  refine ⟨w1, w2, fun x hx => w3 _ (tsp_lt hi hj hx), fun x y hx hy e => tsp_inj (w4 _ _ (tsp_lt hi hj hx) (tsp_lt hi hj hy) e), by rw [dn_swap w hi hj]; exact w5, ?_, w7, fun t ht => ?_, w9, w10⟩
  · show dr D ≤ _
    omega
  · have ht : t ≤ dr D := ht
    have e : t = 0 := by omega
    subst e
    rw [DP_0]
    rfl
theorem WF.again {D : dd} (w : WF D) : WF (dAgain D) := by
  obtain ⟨w1, w2, w3, w4, w5, w6, w7, w8, w9, w10⟩ := id w
  refine ⟨w1, w2, w3, w4, w5, Nat.zero_le _, fun i hi => absurd hi (Nat.not_lt_zero i), fun t ht => ?_, w9, w10⟩
  have e : t = 0 := Nat.le_zero.mp ht
  subst e
  rw [DP_0]
  rfl
theorem WF.seed {D : dd} (w : WF D) (s : Int32) : WF (dSeed D s) := w
def cn (D : dd) (x : Nat) : Bool := decide (dr D < dn D) && DP D (dr D + 1) (sm (dS D) (dr D) + x)
theorem WF.read {D : dd} (w : WF D) {x : Nat} (hx : x ≤ 1) (hc : cn D x = true) : WF (dRead D x) := by
  obtain ⟨w1, w2, w3, w4, w5, w6, w7, w8, w9, w10⟩ := id w
  unfold cn at hc
  simp only [Bool.and_eq_true, decide_eq_true_eq] at hc
  refine ⟨w1, w2, w3, w4, w5, hc.1, fun i hi => ?_, fun t ht => ?_, w9, w10⟩
  · have hi : i < dr D + 1 := hi
    show up (dS D) (dr D) x i ≤ 1
    by_cases e : i = dr D
    · rw [e, up_e]
      exact hx
    · rw [up_n e]
      exact w7 i (by omega)
  · have ht : t ≤ dr D + 1 := ht
    show DP D t (sm (up (dS D) (dr D) x) t) = true
    by_cases e : t = dr D + 1
    · rw [e, sm, up_e, sm_up (Nat.le_refl _)]
      exact hc.2
    · rw [sm_up (by omega)]
      exact w8 t (by omega)
/-! the class's drum -/
theorem c_layIn {M : am_M} {o a b : Nat} {D : dd} (w : WF D) (h : DR M o D) (h4 : dh D < 4) : wp (f_X1_layIn M o (Int32.ofNat a) (Int32.ofNat b)) (fun y => y.1 = Int32.ofNat (dh D) ∧ DR y.2 o (dAddH D a b)) := by
  obtain ⟨h1, h2, h3, h4', h5, h6, h7, h8, h9, h10⟩ := id h
  unfold f_X1_layIn
  rw [h1]
  refine wp_let (wp_le (x := 4) (by omega) (by omega) (fun e => absurd e (by omega)) (fun _ => wp_inb h4 (by omega) (wp_let (wp_inb h4 (by omega) (wp_let (wp_inb h4 (by omega) (wp_let (wp_let (wp_let (wp_let (wp_some ⟨rfl, ?_⟩)))))))))))
  rw [i_cl (x := dh D) (by omega)]
  refine ⟨?_, ?_, ?_, fun i hi => ⟨?_, ?_, ?_⟩, ?_, ?_, fun i hi => ?_, ?_, fun i hi => ⟨?_, ?_, ?_⟩, ?_⟩
  · rw [si_j (by decide), si_j (by decide), am_si_self, si_k (by decide), si_k (by decide), si_k (by decide), h1, i_s]
    rfl
  · rw [si_j (by decide), am_si_self, si_j (by decide), si_k (by decide), si_k (by decide), si_k (by decide), h2, i_add, i_add, dn_addH w, Nat.add_assoc]
  · rw [am_si_self, si_j (by decide), si_j (by decide), si_k (by decide), si_k (by decide), si_k (by decide), h3, i_add, de_addH w]
  · have hi : i < dh D + 1 := hi
    rw [si_k (by decide), si_k (by decide), si_k (by decide), si_k (by decide), si_k (by decide), si_e]
    show _ = Int32.ofNat (up (dA D) (dh D) a i)
    by_cases e : i = dh D
    · rw [if_pos e, e, up_e]
    · rw [if_neg e, up_n e]
      exact (h4' i (by omega)).1
  · have hi : i < dh D + 1 := hi
    rw [si_k (by decide), si_k (by decide), si_k (by decide), si_k (by decide), si_e, si_k (by decide)]
    show _ = Int32.ofNat (up (dB D) (dh D) b i)
    by_cases e : i = dh D
    · rw [if_pos e, e, up_e]
    · rw [if_neg e, up_n e]
      exact (h4' i (by omega)).2.1
  · have hi : i < dh D + 1 := hi
    rw [si_k (by decide), si_k (by decide), si_k (by decide), si_e, si_k (by decide), si_k (by decide)]
    show _ = Int32.ofNat (up (dO D) (dh D) (dh D) i)
    by_cases e : i = dh D
    · rw [if_pos e, e, up_e]
    · rw [if_neg e, up_n e]
      exact (h4' i (by omega)).2.2
  · rw [si_j (by decide), si_j (by decide), si_j (by decide), si_k (by decide), si_k (by decide), si_k (by decide)]
    exact h5
  · rw [si_j (by decide), si_j (by decide), si_j (by decide), si_k (by decide), si_k (by decide), si_k (by decide)]
    exact h6
  · rw [si_k (by decide), si_k (by decide), si_k (by decide), si_k (by decide), si_k (by decide), si_k (by decide)]
    exact h7 i hi
  · rw [si_j (by decide), si_j (by decide), si_j (by decide), si_k (by decide), si_k (by decide), si_k (by decide)]
    exact h8
  · rw [si_k (by decide), si_k (by decide), si_k (by decide), si_k (by decide), si_k (by decide), si_k (by decide)]
    exact (h9 i hi).1
  · rw [si_k (by decide), si_k (by decide), si_k (by decide), si_k (by decide), si_k (by decide), si_k (by decide)]
    exact (h9 i hi).2.1
  · rw [si_k (by decide), si_k (by decide), si_k (by decide), si_k (by decide), si_k (by decide), si_k (by decide)]
    exact (h9 i hi).2.2
  · rw [si_j (by decide), si_j (by decide), si_j (by decide), si_k (by decide), si_k (by decide), si_k (by decide)]
    exact h10
theorem c_remember {M : am_M} {o k t v : Nat} {D : dd} (h : DR M o D) (h4 : df D < 4) : wp (f_X1_remember M o (Int32.ofNat k) (Int32.ofNat t) (Int32.ofNat v)) (fun y => y.1 = Int32.ofNat (df D) ∧ DR y.2 o (dAddF D k t v)) := by
  obtain ⟨h1, h2, h3, h4', h5, h6, h7, h8, h9, h10⟩ := id h
  unfold f_X1_remember
  rw [h8]
  refine wp_let (wp_le (x := 4) (by omega) (by omega) (fun e => absurd e (by omega)) (fun _ => wp_inb h4 (by omega) (wp_let (wp_inb h4 (by omega) (wp_let (wp_inb h4 (by omega) (wp_let (wp_let (wp_some ⟨rfl, ?_⟩)))))))))
  rw [i_cl (x := df D) (by omega)]
  refine ⟨?_, ?_, ?_, fun i hi => ⟨?_, ?_, ?_⟩, ?_, ?_, fun i hi => ?_, ?_, fun i hi => ⟨?_, ?_, ?_⟩, ?_⟩
  · rw [si_j (by decide), si_k (by decide), si_k (by decide), si_k (by decide)]
    exact h1
  · rw [si_j (by decide), si_k (by decide), si_k (by decide), si_k (by decide)]
    exact h2
  · rw [si_j (by decide), si_k (by decide), si_k (by decide), si_k (by decide)]
    exact h3
  · rw [si_k (by decide), si_k (by decide), si_k (by decide), si_k (by decide)]
    exact (h4' i hi).1
  · rw [si_k (by decide), si_k (by decide), si_k (by decide), si_k (by decide)]
    exact (h4' i hi).2.1
  · rw [si_k (by decide), si_k (by decide), si_k (by decide), si_k (by decide)]
    exact (h4' i hi).2.2
  · rw [si_j (by decide), si_k (by decide), si_k (by decide), si_k (by decide)]
    exact h5
  · rw [si_j (by decide), si_k (by decide), si_k (by decide), si_k (by decide)]
    exact h6
  · rw [si_k (by decide), si_k (by decide), si_k (by decide), si_k (by decide)]
    exact h7 i hi
  · rw [am_si_self, si_k (by decide), si_k (by decide), si_k (by decide), h8, i_s]
    rfl
  · have hi : i < df D + 1 := hi
    rw [si_k (by decide), si_k (by decide), si_k (by decide), si_e]
    show _ = Int32.ofNat (up (dK D) (df D) k i)
    by_cases e : i = df D
    · rw [if_pos e, e, up_e]
    · rw [if_neg e, up_n e]
      exact (h9 i (by omega)).1
  · have hi : i < df D + 1 := hi
    rw [si_k (by decide), si_k (by decide), si_e, si_k (by decide)]
    show _ = Int32.ofNat (up (dT D) (df D) t i)
    by_cases e : i = df D
    · rw [if_pos e, e, up_e]
    · rw [if_neg e, up_n e]
      exact (h9 i (by omega)).2.1
  · have hi : i < df D + 1 := hi
    rw [si_k (by decide), si_e, si_k (by decide), si_k (by decide)]
    show _ = Int32.ofNat (up (dV D) (df D) v i)
    by_cases e : i = df D
    · rw [if_pos e, e, up_e]
    · rw [if_neg e, up_n e]
      exact (h9 i (by omega)).2.2
  · rw [si_j (by decide), si_k (by decide), si_k (by decide), si_k (by decide)]
    exact h10
theorem c_exchange {M : am_M} {o i j : Nat} {D : dd} (w : WF D) (h : DR M o D) (hi : i < dh D) (hj : j < dh D) : wp (f_X1_exchange M o (Int32.ofNat i) (Int32.ofNat j)) (fun N => DR N o (dSwap D i j)) := by
  obtain ⟨h1, h2, h3, h4', h5, h6, h7, h8, h9, h10⟩ := id h
  have h4 := w.1
  unfold f_X1_exchange
  rw [i_cl (x := i) (by omega), i_cl (x := j) (by omega)]
  refine wp_inb (by omega) (by omega) (wp_let (wp_inb (by omega) (by omega) (wp_inb (by omega) (by omega) (wp_let (wp_inb (by omega) (by omega) (wp_let (wp_some ?_)))))))
  refine ⟨?_, ?_, ?_, fun x hx => ⟨?_, ?_, ?_⟩, ?_, ?_, fun x hx => ?_, ?_, fun x hx => ⟨?_, ?_, ?_⟩, ?_⟩
  · rw [si_k (by decide), si_k (by decide)]; exact h1
  · rw [si_k (by decide), si_k (by decide), dn_swap w hi hj]; exact h2
  · rw [si_k (by decide), si_k (by decide), de_swap w hi hj]; exact h3
  · rw [si_k (by decide), si_k (by decide)]; exact (h4' x hx).1
  · rw [si_k (by decide), si_k (by decide)]; exact (h4' x hx).2.1
  · rw [si_e, si_e]
    show _ = Int32.ofNat (dO D (tsp i j x))
    unfold tsp
    by_cases e1 : x = i
    · rw [if_pos e1, if_pos e1]
      by_cases e2 : x = j
      · rw [if_pos e2, (h4' i hi).2.2, ← e1, e2]
      · rw [if_neg e2, (h4' j hj).2.2]
    · rw [if_neg e1, if_neg e1]
      by_cases e2 : x = j
      · rw [if_pos e2, if_pos e2, (h4' i hi).2.2]
      · rw [if_neg e2, if_neg e2]
        exact (h4' x hx).2.2
  · rw [si_k (by decide), si_k (by decide)]; exact h5
  · rw [si_k (by decide), si_k (by decide)]; exact h6
  · rw [si_k (by decide), si_k (by decide)]; exact h7 x hx
  · rw [si_k (by decide), si_k (by decide)]; exact h8
  · rw [si_k (by decide), si_k (by decide)]; exact (h9 x hx).1
  · rw [si_k (by decide), si_k (by decide)]; exact (h9 x hx).2.1
  · rw [si_k (by decide), si_k (by decide)]; exact (h9 x hx).2.2
  · rw [si_k (by decide), si_k (by decide)]; exact h10
/-! the reference's drum -/
theorem r_addHeap {M : am_M} {o a b : Nat} {D : dd} (h : RF M o D) (h4 : dh D < 4) : wp (f_X5_addHeap M o (Int32.ofNat a) (Int32.ofNat b)) (fun N => RF N o (dAddH D a b)) := by
  obtain ⟨h1, h2, h3, h4', h5, h6, h7⟩ := id h
  unfold f_X5_addHeap
  rw [h1]
  refine wp_inb h4 (by omega) (wp_let ?_)
  rw [si_k (k' := 5) (by decide), h1]
  refine wp_inb h4 (by omega) (wp_let ?_)
  rw [si_k (k' := 5) (by decide), si_k (k' := 5) (by decide), h1]
  refine wp_inb h4 (by omega) (wp_let (wp_let (wp_some ?_)))
  rw [i_cl (x := dh D) (by omega)]
  refine ⟨?_, fun i hi => ⟨?_, ?_, ?_⟩, ?_, fun i hi => ?_, ?_, fun i hi => ⟨?_, ?_, ?_⟩, ?_⟩
  · rw [am_si_self, si_k (by decide), si_k (by decide), si_k (by decide), h1, i_s]
    rfl
  · have hi : i < dh D + 1 := hi
    rw [si_k (by decide), si_k (by decide), si_k (by decide), si_e]
    show _ = Int32.ofNat (up (dA D) (dh D) a i)
    by_cases e : i = dh D
    · rw [if_pos e, e, up_e]
    · rw [if_neg e, up_n e]
      exact (h2 i (by omega)).1
  · have hi : i < dh D + 1 := hi
    rw [si_k (by decide), si_k (by decide), si_e, si_k (by decide)]
    show _ = Int32.ofNat (up (dB D) (dh D) b i)
    by_cases e : i = dh D
    · rw [if_pos e, e, up_e]
    · rw [if_neg e, up_n e]
      exact (h2 i (by omega)).2.1
  · have hi : i < dh D + 1 := hi
    rw [si_k (by decide), si_e, si_k (by decide), si_k (by decide)]
    show _ = Int32.ofNat (up (dO D) (dh D) (dh D) i)
    by_cases e : i = dh D
    · rw [if_pos e, e, up_e]
    · rw [if_neg e, up_n e]
      exact (h2 i (by omega)).2.2
  · rw [si_j (by decide), si_k (by decide), si_k (by decide), si_k (by decide)]; exact h3
  · rw [si_k (by decide), si_k (by decide), si_k (by decide), si_k (by decide)]; exact h4' i hi
  · rw [si_j (by decide), si_k (by decide), si_k (by decide), si_k (by decide)]; exact h5
  · rw [si_k (by decide), si_k (by decide), si_k (by decide), si_k (by decide)]; exact (h6 i hi).1
  · rw [si_k (by decide), si_k (by decide), si_k (by decide), si_k (by decide)]; exact (h6 i hi).2.1
  · rw [si_k (by decide), si_k (by decide), si_k (by decide), si_k (by decide)]; exact (h6 i hi).2.2
  · rw [si_j (by decide), si_k (by decide), si_k (by decide), si_k (by decide)]; exact h7
theorem r_change {M : am_M} {o i j : Nat} {D : dd} (h4 : dh D ≤ 4) (h : RF M o D) (hi : i < dh D) (hj : j < dh D) : wp (f_X5_change M o (Int32.ofNat i) (Int32.ofNat j)) (fun N => RF N o (dSwap D i j)) := by
  obtain ⟨h1, h2, h3, h4', h5, h6, h7⟩ := id h
  unfold f_X5_change
  rw [i_cl (x := i) (by omega), i_cl (x := j) (by omega)]
  refine wp_inb (by omega) (by omega) (wp_let (wp_inb (by omega) (by omega) (wp_inb (by omega) (by omega) (wp_let (wp_inb (by omega) (by omega) (wp_let (wp_some ?_)))))))
  refine ⟨?_, fun x hx => ⟨?_, ?_, ?_⟩, ?_, fun x hx => ?_, ?_, fun x hx => ⟨?_, ?_, ?_⟩, ?_⟩
  · rw [si_k (by decide), si_k (by decide)]; exact h1
  · rw [si_k (by decide), si_k (by decide)]; exact (h2 x hx).1
  · rw [si_k (by decide), si_k (by decide)]; exact (h2 x hx).2.1
  · rw [si_e, si_e]
    show _ = Int32.ofNat (dO D (tsp i j x))
    unfold tsp
    by_cases e1 : x = i
    · rw [if_pos e1, if_pos e1]
      by_cases e2 : x = j
      · rw [if_pos e2, (h2 i hi).2.2, ← e1, e2]
      · rw [if_neg e2, (h2 j hj).2.2]
    · rw [if_neg e1, if_neg e1]
      by_cases e2 : x = j
      · rw [if_pos e2, if_pos e2, (h2 i hi).2.2]
      · rw [if_neg e2, if_neg e2]
        exact (h2 x hx).2.2
  · rw [si_k (by decide), si_k (by decide)]; exact h3
  · rw [si_k (by decide), si_k (by decide)]; exact h4' x hx
  · rw [si_k (by decide), si_k (by decide)]; exact h5
  · rw [si_k (by decide), si_k (by decide)]; exact (h6 x hx).1
  · rw [si_k (by decide), si_k (by decide)]; exact (h6 x hx).2.1
  · rw [si_k (by decide), si_k (by decide)]; exact (h6 x hx).2.2
  · rw [si_k (by decide), si_k (by decide)]; exact h7
