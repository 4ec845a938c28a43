/-! drawing by chance -/
def dvx (s : Int32) : Int32 := ((s.toUInt32 >>> ((16 : Int32).toUInt32 &&& Int32.toUInt32 31)).toInt32)
theorem dv_ok (s : Int32) : ∃ y, y < 65536 ∧ dvx s = Int32.ofNat y := by
  have e : ((16 : Int32).toUInt32 &&& Int32.toUInt32 31) = 16 := by decide
  unfold dvx
  rw [e]
  refine ⟨(s.toUInt32 >>> 16).toNat, ?_, ?_⟩
  · have h1 := s.toUInt32.toNat_lt
    rw [UInt32.toNat_shiftRight, Nat.shiftRight_eq_div_pow]
    have e16 : (16 : UInt32).toNat % 32 = 16 := by decide
    rw [e16]
    omega
  · apply Int32.toBitVec.inj
    apply BitVec.eq_of_toNat_eq
    show (s.toUInt32 >>> 16).toNat = (BitVec.ofNat 32 (s.toUInt32 >>> 16).toNat).toNat
    rw [BitVec.toNat_ofNat, Nat.mod_eq_of_lt (UInt32.toNat_lt _)]
def dvn (s : Int32) : Nat := (dvx s).toNatClampNeg
theorem dvn_ok (s : Int32) : dvx s = Int32.ofNat (dvn s) ∧ dvn s < 65536 := by
  obtain ⟨y, hy, e⟩ := dv_ok s
  have e2 : dvn s = y := by unfold dvn; rw [e, i_cl (by omega)]
  exact ⟨by rw [e2]; exact e, by omega⟩
theorem dv_mod {s : Int32} {q : Nat} (hq : 0 < q) (h24 : q ≤ 24) : dvx s - dvx s / Int32.ofNat q * Int32.ofNat q = Int32.ofNat (dvn s % q) := by
  obtain ⟨e, h⟩ := dvn_ok s
  have h1 := Nat.div_add_mod (dvn s) q
  rw [Nat.mul_comm] at h1
  rw [e, i_div (by omega) (by omega), i_mul, i_sub (by omega)]
  congr 1
  omega
def nsd (D : dd) : Int32 := ds D * 1103515245 + 12345
theorem nsd_e (D : dd) : ds D * 1103515245 + 12345 = nsd D := rfl
def dwx (D : dd) (s : Int32) : Nat := if LA D ≤ dvn s % (LA D + LBB D) then 0 else 1
def dDrw (D : dd) (s : Int32) : dd := dRead (dSeed D s) (dwx D s)
theorem dwx_1 (D : dd) (s : Int32) : dwx D s ≤ 1 := by unfold dwx; split <;> omega
theorem dwx_ok {D : dd} (w : WF D) (hr : dr D < dn D) (s : Int32) : cn D (dwx D s) = true := by
  have hL := LL w hr
  rw [cn_eq w hr (dwx_1 D s), decide_eq_true_eq]
  have hm := Nat.mod_lt (dvn s) hL.2.1
  unfold dwx
  by_cases h : LA D ≤ dvn s % (LA D + LBB D)
  · rw [if_pos h, if_pos rfl]
    omega
  · rw [if_neg h, if_neg (by decide)]
    omega
theorem WF.drw {D : dd} (w : WF D) (hr : dr D < dn D) (s : Int32) : WF (dDrw D s) := WF.read (D := dSeed D s) w (dwx_1 D s) (dwx_ok w hr s)
theorem drw_dn (D : dd) (s : Int32) : dn (dDrw D s) = dn D := rfl
theorem drw_dr (D : dd) (s : Int32) : dr (dDrw D s) = dr D + 1 := rfl
theorem c_below {M : am_M} {o q : Nat} {s : Int32} (hq : 0 < q) (h24 : q ≤ 24) (hs : M.1 1 o 0 13 * 1103515245 + 12345 = s) : f_X1_drawBelow M o (Int32.ofNat q) = some (Int32.ofNat (dvn s % q), am_si M 1 o 0 13 s) := by
  unfold f_X1_drawBelow
  rw [hs]
  refine wp_is (wp_lt (x := 0) (by omega) (by omega) (fun _ => wp_let (wp_pos (fun z => ?_) (wp_some ?_))) (fun e => absurd e (by omega)))
  · rw [show (0 : Int32) = Int32.ofNat 0 from rfl, i_eq (by omega) (by omega)] at z
    omega
  · rw [am_si_self, ← dv_mod hq h24]
    rfl
theorem c_drwS {M : am_M} {o : Nat} {D : dd} {s : Int32} (w : WF D) (h : DR M o D) (hr : dr D < dn D) (hs : M.1 1 o 0 13 * 1103515245 + 12345 = s) : wp (f_X1_takeByDraw M o) (fun y => y.1 = Int32.ofNat (dwx D s) ∧ DR y.2 o (dDrw D s)) := by
  have hL := LL w hr
  unfold f_X1_takeByDraw
  refine wp_be (c_leftNow (x := 1) w h (by omega)) (wp_be (c_leftNow (x := 0) w h (by omega)) ?_)
  rw [if_pos hr, if_pos hr, if_neg (by decide), if_pos rfl, i_add]
  refine wp_be (c_below hL.2.1 hL.2.2 hs) ?_
  have hm := Nat.mod_lt (dvn s) hL.2.1
  refine wp_call (Q := fun z => z = Int32.ofNat (dwx D s)) (wp_le (by omega) (by omega) (fun e => wp_some ?_) (fun e => wp_some ?_)) (fun z hz => ?_)
  · unfold dwx
    rw [if_pos e]
    rfl
  · unfold dwx
    rw [if_neg (Nat.not_le.mpr e)]
    rfl
  · subst hz
    have h1 := dwx_1 D s
    refine wp_call (c_take (D := dSeed D s) (w.seed _) (h.sd s) h1) (fun y hy => ?_)
    rcases hy with ⟨hc, y1, y2⟩ | ⟨hc, _⟩
    · refine wp_ieq (y := 0) (by omega) (by omega) (fun e => wp_some ⟨?_, y2⟩) (fun e => wp_some ⟨?_, y2⟩)
      · show (0 : Int32) = _
        rw [e]
        rfl
      · show (1 : Int32) = _
        rw [show dwx D s = 1 from by omega]
        rfl
    · have := dwx_ok w hr s
      have hc : cn D (dwx D s) = false := hc
      rw [this] at hc
      cases hc
theorem c_draw {M : am_M} {o : Nat} {D : dd} (w : WF D) (h : DR M o D) (hr : dr D < dn D) : wp (f_X1_takeByDraw M o) (fun y => y.1 = Int32.ofNat (dwx D (nsd D)) ∧ DR y.2 o (dDrw D (nsd D))) :=
  c_drwS w h hr (by rw [h.2.2.2.2.2.2.2.2.2, nsd_e])
theorem r_below {M : am_M} {o q : Nat} {s : Int32} (hq : 0 < q) (h24 : q ≤ 24) (hs : M.1 5 o 0 18 * 1103515245 + 12345 = s) : f_X5_below M o (Int32.ofNat q) = some (Int32.ofNat (dvn s % q), am_si M 5 o 0 18 s) := by
  unfold f_X5_below
  rw [hs]
  refine wp_is (wp_let (wp_pos (fun z => ?_) (wp_some ?_)))
  · rw [show (0 : Int32) = Int32.ofNat 0 from rfl, i_eq (by omega) (by omega)] at z
    omega
  · rw [am_si_self, ← dv_mod hq h24]
    rfl
theorem r_drwS {M : am_M} {o : Nat} {D : dd} {s : Int32} (w : WF D) (h : RF M o D) (hr : dr D < dn D) (hs : M.1 5 o 0 18 * 1103515245 + 12345 = s) : wp (f_X5_drawOne M o) (fun y => y.1 = Int32.ofNat (dwx D s) ∧ RF y.2 o (dDrw D s)) := by
  have hL := LL w hr
  have w5 := w.2.2.2.2.1
  have h1 := dwx_1 D s
  unfold f_X5_drawOne
  refine wp_be (r_leftNow (x := 1) w h (by omega) hr) (wp_be (r_leftNow (x := 0) w h (by omega) hr) ?_)
  rw [if_neg (by decide), if_pos rfl, i_add]
  have hS := h.sd s
  have hm := Nat.mod_lt (dvn s) hL.2.1
  refine wp_be (r_below hL.2.1 hL.2.2 hs) ?_
  refine wp_call (Q := fun z => z = Int32.ofNat (dwx D s)) (wp_le (by omega) (by omega) (fun e => wp_some ?_) (fun e => wp_some ?_)) (fun z hz => wp_let ?_)
  · unfold dwx
    rw [if_pos e]
    rfl
  · unfold dwx
    rw [if_neg (Nat.not_le.mpr e)]
    rfl
  · subst hz
    have e16 : (am_si M 5 o 0 18 s).1 5 o 0 16 = Int32.ofNat (dr D) := hS.2.2.1
    dsimp only
    rw [e16, i_s, i_cl (x := dr D) (by omega)]
    refine wp_call (Q := fun z => z = Int32.ofNat (dwx D s)) (wp_ieq (y := 0) (by omega) (by omega) (fun e => wp_some (by rw [e]; rfl)) (fun e => wp_some (by rw [show dwx D s = 1 from by omega]; rfl))) (fun z hz => ?_)
    subst hz
    refine wp_inb (by omega) (by omega) (wp_let (wp_ieq (y := 0) (by omega) (by omega) (fun e => wp_some ⟨?_, r_push (D := dSeed D s) hS⟩) (fun e => wp_some ⟨?_, r_push (D := dSeed D s) hS⟩)))
    · show (0 : Int32) = _
      rw [e]
      rfl
    · show (1 : Int32) = _
      rw [show dwx D s = 1 from by omega]
      rfl
theorem r_draw {M : am_M} {o : Nat} {D : dd} (w : WF D) (h : RF M o D) (hr : dr D < dn D) : wp (f_X5_drawOne M o) (fun y => y.1 = Int32.ofNat (dwx D (nsd D)) ∧ RF y.2 o (dDrw D (nsd D))) :=
  r_drwS w h hr (by rw [h.2.2.2.2.2.2, nsd_e])
theorem k_draw : ok_draw GT := by
  intro tr b M h
  obtain ⟨⟨D, w, hD, hR⟩, _⟩ := id h
  have w5 := w.2.2.2.2.1
  have w6 := w.2.2.2.2.2.1
  by_cases hr : dr D < dn D
  · obtain ⟨y, e4, ⟨y1, y2⟩, k4⟩ := wp_kp (c_draw w hD hr) fr_f_X1_takeByDraw
    have hR4 := hR.ag k4 rfl
    obtain ⟨z, e5, ⟨z1, z2⟩, k5⟩ := wp_kp (r_draw w hR4 hr) fr_f_X5_drawOne
    refine ⟨y, z, wp_is ?_, wp_is ?_, y1.trans z1.symm, gt_d h k4 k5 (w.drw hr _) y2 z2 rfl rfl rfl⟩
    · unfold f_X4_draw
      rw [hD.2.1, hD.2.2.2.2.1]
      exact wp_lt (by omega) (by omega) (fun _ => wp_be e4 (wp_some rfl)) (fun e => absurd e (by omega))
    · unfold f_X5_draw
      rw [hR4.2.2.1]
      exact wp_be (r_all w.H hR4.H) (wp_le (by omega) (by omega) (fun e => absurd e (by omega)) (fun _ => wp_be e5 (wp_some rfl)))
  · refine gt_r1 (g := fun N => f_X5_draw N 0) (v := (-5 : Int32)) (w := 5) (by omega) h (wp_is ?_) (wp_is ?_)
    · unfold f_X4_draw
      rw [hD.2.1, hD.2.2.2.2.1]
      exact wp_lt (by omega) (by omega) (fun e => absurd e hr) (fun _ => wp_be (x4_ref5 M) (wp_some rfl))
    · have hR4 := hR.ag (ref4_k M 5) rfl
      unfold f_X5_draw
      rw [hR4.2.2.1]
      exact wp_be (r_all w.H hR4.H) (wp_le (by omega) (by omega) (fun _ => wp_be (x5_ref5 _) (wp_some rfl)) (fun e => absurd e (by omega)))
/-! an evening -/
def itD (D : dd) : Nat → dd
  | 0 => D
  | k + 1 => dDrw (itD D k) (nsd (itD D k))
theorem itD_dn (D : dd) : ∀ k : Nat, dn (itD D k) = dn D
  | 0 => rfl
  | k + 1 => by rw [itD, drw_dn, itD_dn D k]
theorem itD_dr (D : dd) : ∀ k : Nat, dr (itD D k) = dr D + k
  | 0 => rfl
  | k + 1 => by rw [itD, drw_dr, itD_dr D k, Nat.add_assoc]
theorem itD_w {D : dd} (w : WF D) : ∀ k : Nat, dr D + k ≤ dn D → WF (itD D k)
  | 0, _ => w
  | k + 1, h => by
    rw [itD]
    exact WF.drw (itD_w w k (by omega)) (by rw [itD_dn, itD_dr]; omega) _
theorem c_even18 {D : dd} {l : Nat} (w : WF D) (hl : dr D + l = dn D) : ∀ (m k : Nat) (M : am_M), k ≤ l → l + 1 ≤ m + k → DR M 0 (itD D k) → wp (l_X4_evening_18 (Int32.ofNat l) m (Int32.ofNat k) M) (fun N => DR N 0 (itD D l)) := by
  intro m
  have w5 := w.2.2.2.2.1
  induction m with
  | zero => intro k M h1 h2; omega
  | succ m ih =>
    intro k M hk hm hD
    rw [l_X4_evening_18]
    refine wp_le (by omega) (by omega) (fun e => wp_some (by rw [show l = k from by omega]; exact hD)) (fun e => ?_)
    refine wp_call (c_draw (itD_w w k (by omega)) hD (by rw [itD_dn, itD_dr]; omega)) (fun y hy => wp_let ?_)
    rw [i_s]
    exact ih (k + 1) y.2 (by omega) (by omega) (by rw [itD]; exact hy.2)
theorem r_even0 {D : dd} {l : Nat} (w : WF D) (hl : dr D + l = dn D) : ∀ (m k : Nat) (M : am_M), k ≤ l → l + 1 ≤ m + k → RF M 0 (itD D k) → wp (l_X5_evening_0 0 m M) (fun N => RF N 0 (itD D l)) := by
  intro m
  have w5 := w.2.2.2.2.1
  induction m with
  | zero => intro k M h1 h2; omega
  | succ m ih =>
    intro k M hk hm hR
    have wk := itD_w w k (by omega)
    rw [l_X5_evening_0, hR.2.2.1]
    refine wp_be (r_all wk.H hR.H) ?_
    rw [itD_dn, itD_dr]
    refine wp_le (by omega) (by omega) (fun e => wp_some (by rw [show l = k from by omega]; exact hR)) (fun e => ?_)
    exact wp_call (r_draw wk hR (by rw [itD_dn, itD_dr]; omega)) (fun y hy => ih (k + 1) y.2 (by omega) (by omega) (by rw [itD]; exact hy.2))
def mom (S : Nat → Nat) (r : Nat) : Nat := sm (fun i => if i + 1 < 2 * sm S (i + 1) then 1 else 0) r
theorem c_mom6 {M : am_M} {o r : Nat} {S : Nat → Nat} (hr : r ≤ 24) (h6 : M.1 1 o 0 6 = Int32.ofNat r) (h8 : ∀ i, i < r → M.1 208 o 0 i = Int32.ofNat (S i)) (hS : ∀ i, i < r → S i ≤ 1) : ∀ (m i : Nat) (a2 : Int32), i ≤ r → r + 1 ≤ m + i → a2.toInt = 2 * (sm S i : Int) - i → wp (l_X1_momentsAhead_6 M o m (Int32.ofNat (mom S i)) a2 (Int32.ofNat i)) (fun y => y = Int32.ofNat (mom S r)) := by
  intro m
  induction m with
  | zero => intro i a2 h1 h2; omega
  | succ m ih =>
    intro i a2 hi hm ha
    rw [l_X1_momentsAhead_6, h6]
    refine wp_le (by omega) (by omega) (fun e => wp_some (by rw [show i = r from by omega])) (fun hlt => wp_inb (by omega) (by omega) ?_)
    have hs := hS i hlt
    have hb := sm_le1 hS i (by omega)
    have tm1 : (-1 : Int32).toInt = -1 := by decide
    rw [i_cl (by omega), h8 i hlt]
    refine wp_call (Q := fun z => z.toInt = 2 * (S i : Int) - 1) (wp_ieq (y := 1) (by omega) (by omega) (fun e => wp_some ?_) (fun e => wp_some ?_)) (fun z hz => wp_let ?_)
    · rw [t1, e]; rfl
    · rw [tm1, show S i = 0 from by omega]; rfl
    have e2 : (a2 + z).toInt = 2 * (sm S (i + 1) : Int) - (i + 1 : Nat) := by
      rw [i_tadd (by omega) (by omega), ha, hz, sm]
      omega
    refine wp_call (Q := fun v => v = Int32.ofNat (if i + 1 < 2 * sm S (i + 1) then 1 else 0)) (wp_tl (fun e => wp_some ?_) (fun e => wp_some ?_)) (fun v hv => wp_let (wp_let ?_))
    · rw [e2, t0] at e
      rw [if_neg (by omega)]; rfl
    · rw [e2, t0] at e
      rw [if_pos (by omega)]; rfl
    · rw [hv, i_add, i_s]
      exact ih (i + 1) _ (by omega) (by omega) e2
theorem r_mom23 {M : am_M} {o r : Nat} {S : Nat → Nat} (hr : r ≤ 24) (h6 : M.1 5 o 0 16 = Int32.ofNat r) (h8 : ∀ i, i < r → M.1 617 o 0 i = Int32.ofNat (S i)) (hS : ∀ i, i < r → S i ≤ 1) : ∀ (m i : Nat), i ≤ r → r + 1 ≤ m + i → wp (l_X5_evening_23 M o m (Int32.ofNat (mom S i)) (Int32.ofNat (i + 1))) (fun y => y = Int32.ofNat (mom S r)) := by
  intro m
  induction m with
  | zero => intro i h1 h2; omega
  | succ m ih =>
    intro i hi hm
    rw [l_X5_evening_23, h6]
    refine wp_lt (by omega) (by omega) (fun e => wp_some (by rw [show i = r from by omega])) (fun hlt => ?_)
    have hb := sm_le1 hS (i + 1) (by omega)
    refine wp_be (r_readA (r := r) hr hlt h8) ?_
    rw [show (2 : Int32) = Int32.ofNat 2 from rfl, i_mul]
    refine wp_call (Q := fun v => v = Int32.ofNat (if i + 1 < 2 * sm S (i + 1) then 1 else 0)) (wp_le (by omega) (by omega) (fun e => wp_some (by rw [if_neg (by omega)]; rfl)) (fun e => wp_some (by rw [if_pos (by omega)]; rfl))) (fun v hv => wp_let (wp_let ?_))
    rw [hv, i_add, i_s]
    exact ih (i + 1) (by omega) (by omega)
theorem k_evening : ok_evening GT := by
  intro tr b M h
  obtain ⟨⟨D, w, hD, hR⟩, _⟩ := id h
  have w5 := w.2.2.2.2.1
  have w6 := w.2.2.2.2.2.1
  have hl : dr D + (dn D - dr D) = dn D := by omega
  have wl := itD_w w (dn D - dr D) (by omega)
  obtain ⟨l1, l2, l3, l4, l5, l6, l7, l8, l9, l10⟩ := id wl
  have e4 : wp (f_X4_evening M) (fun y => y.1 = Int32.ofNat (mom (dS (itD D (dn D - dr D))) (dr (itD D (dn D - dr D)))) ∧ DR y.2 0 (itD D (dn D - dr D))) := by
    unfold f_X4_evening
    rw [hD.2.1, hD.2.2.2.2.1, i_sub w6]
    refine wp_let (wp_call (c_even18 w hl 1000 0 M (by omega) (by omega) hD) (fun N hN => ?_))
    unfold f_X1_momentsAhead
    exact wp_call (wp_call (c_mom6 (S := dS (itD D (dn D - dr D))) (show dr (itD D (dn D - dr D)) ≤ 24 from by omega) hN.2.2.2.2.1 hN.2.2.2.2.2.2.1 l7 1000 0 0 (by omega) (by omega) rfl) (fun y hy => wp_some hy)) (fun y hy => wp_some ⟨hy, hN⟩)
  obtain ⟨y, e4, ⟨y1, y2⟩, k4⟩ := wp_kp e4 fr_f_X4_evening
  have hR4 := hR.ag k4 rfl
  have e5 : wp (f_X5_evening y.2 0) (fun y => y.1 = Int32.ofNat (mom (dS (itD D (dn D - dr D))) (dr (itD D (dn D - dr D)))) ∧ RF y.2 0 (itD D (dn D - dr D))) := by
    unfold f_X5_evening
    rw [hR4.2.2.1]
    refine wp_be (r_all w.H hR4.H) (wp_call (Q := fun N => RF N 0 (itD D (dn D - dr D))) (wp_le (by omega) (by omega) (fun e => wp_some ?_) (fun e => ?_)) (fun N hN => ?_))
    · rw [show dn D - dr D = 0 from by omega]
      exact hR4
    · exact wp_call (r_draw w hR4 e) (fun z hz => wp_call (r_even0 w hl 1000 1 z.2 (by omega) (by omega) (by rw [itD, itD]; exact hz.2)) (fun N hN => wp_some hN))
    · exact wp_call (r_mom23 (S := dS (itD D (dn D - dr D))) (show dr (itD D (dn D - dr D)) ≤ 24 from by omega) hN.2.2.1 hN.2.2.2.1 l7 1000 0 (by omega) (by omega)) (fun y hy => wp_some ⟨hy, hN⟩)
  obtain ⟨z, e5, ⟨z1, z2⟩, k5⟩ := wp_kp e5 fr_f_X5_evening
  exact ⟨y, z, e4, e5, y1.trans z1.symm, gt_d h k4 k5 wl y2 z2 rfl rfl rfl⟩
