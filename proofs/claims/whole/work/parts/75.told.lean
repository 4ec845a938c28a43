/-! told rows -/
def vc (v : Int64) : Nat := if v = 0 then 0 else if v = 1 then 1 else 2
def sc (c : Nat) : Int32 := if c = 0 then 0 else if c = 1 then 1 else -1
theorem vc_in (M : am_M) (v : Int64) : f_X5_in M v (0 : Int64) (1 : Int64) = some (bz (decide (vc v ≠ 2))) := by
  rw [f_in, show (0 : Int64).toInt = 0 from by decide, show (1 : Int64).toInt = 1 from by decide]
  unfold vc
  by_cases h0 : v = 0
  · subst h0
    rfl
  · by_cases h1 : v = 1
    · subst h1
      rfl
    · have hz : ¬ (0 ≤ v.toInt ∧ v.toInt ≤ 1) := by
        intro z
        have : v.toInt = 0 ∨ v.toInt = 1 := by omega
        rcases this with e | e
        · exact h0 (Int64.toInt_inj.mp (e.trans (by decide)))
        · exact h1 (Int64.toInt_inj.mp (e.trans (by decide)))
      rw [if_neg h0, if_neg h1, bz_n hz, bz_n (fun z => z rfl)]
theorem vc_32 {v : Int64} (h : vc v ≠ 2) : v.toInt32 = Int32.ofNat (vc v) := by
  unfold vc at *
  by_cases h0 : v = 0
  · subst h0
    rfl
  · by_cases h1 : v = 1
    · subst h1
      rfl
    · rw [if_neg h0, if_neg h1] at h
      exact absurd rfl h
theorem vc_le (v : Int64) : vc v ≤ 2 := by
  unfold vc
  split
  · omega
  · split <;> omega
theorem c_slipAt {M : am_M} {s n i : Nat} (h : M.1 2 s 0 1 = Int32.ofNat n) (hn : n ≤ 40) (hi : i < n) : f_X2_slipAt M s (Int32.ofNat i) = some (sc (vc (M.2 303 s 0 i))) := by
  unfold f_X2_slipAt
  rw [i_cl (x := i) (by omega)]
  refine wp_is (wp_be (c_hasEl h hn _) (wp_neg (bz_dn (by rw [i_ti (by omega)]; omega)) (wp_inb (by omega) (by omega) (wp_ite (fun e => wp_some ?_) (fun e => wp_inb (by omega) (by omega) (wp_ite (fun e1 => wp_some ?_) (fun e1 => wp_some ?_)))))))
  · rw [lg_cmp_eq] at e
    rw [e]
    rfl
  · rw [lg_cmp_eq] at e1
    rw [e1]
    rfl
  · rw [lg_cmp_eq] at e e1
    unfold vc
    rw [if_neg e, if_neg e1]
    rfl
theorem sc_m {c : Nat} (hc : c ≤ 2) : sc c = -1 ↔ c = 2 := by
  have h : c = 0 ∨ c = 1 ∨ c = 2 := by omega
  rcases h with rfl | rfl | rfl <;> decide
theorem sc_n {c : Nat} (hc : c < 2) : sc c = Int32.ofNat c := by
  have h : c = 0 ∨ c = 1 := by omega
  rcases h with rfl | rfl <;> rfl
theorem c_open {M : am_M} {n e t a : Nat} {P : Nat → Nat → Bool} (hn : n ≤ 24) (hC : CL M n e P) (ht : t ≤ n) (ha : a ≤ 24) : f_X0_isOpen M (Int32.ofNat t) (Int32.ofNat a) = some (bz (P t a)) := by
  unfold f_X0_isOpen
  rw [hC.1, i_cl (x := t) (by omega)]
  refine wp_is (wp_be (f_w M _ (m := n) (i_ti (by omega))) (wp_neg (bz_dn (by rw [i_ti (by omega)]; omega)) (wp_be (f_w M _ (m := 24) (by decide)) (wp_neg (bz_dn (by rw [i_ti (by omega)]; omega)) (wp_inb (by omega) (by omega) ?_)))))
  rw [← hC.2.2 t a ht ha]
  exact wp_bt1 (by omega) (fun h => wp_some (by rw [h]; rfl)) (fun h => wp_some (by rw [h]; rfl))
/-- the first slip that can't be -/
def fw (P : Nat → Nat → Bool) (n : Nat) (c : Nat → Nat) (sz : Nat) : Nat → Nat → Nat → Option Nat
  | 0, _, _ => none
  | f + 1, i, a => if sz ≤ i then none else if c i = 2 ∨ n ≤ i then some i else if P 0 0 = false ∨ P (i + 1) (a + c i) = false then some i else fw P n c sz f (i + 1) (a + c i)
theorem fw_lt {P : Nat → Nat → Bool} {n : Nat} {c : Nat → Nat} {sz : Nat} : ∀ {f i a x : Nat}, fw P n c sz f i a = some x → x < sz
  | 0, _, _, _, h => by cases h
  | f + 1, i, a, x, h => by
    rw [fw] at h
    by_cases h1 : sz ≤ i
    · rw [if_pos h1] at h; cases h
    · rw [if_neg h1] at h
      by_cases h2 : c i = 2 ∨ n ≤ i
      · rw [if_pos h2] at h; cases h; omega
      · rw [if_neg h2] at h
        by_cases h3 : P 0 0 = false ∨ P (i + 1) (a + c i) = false
        · rw [if_pos h3] at h; cases h; omega
        · rw [if_neg h3] at h
          exact fw_lt h
theorem fw_no {P : Nat → Nat → Bool} {n : Nat} {c : Nat → Nat} {sz : Nat} : ∀ {f i a : Nat}, fw P n c sz f i a = none → sz < f + i → ∀ j, i ≤ j → j < sz → c j ≠ 2
  | 0, i, _, _, hf, j, h1, h2 => by omega
  | f + 1, i, a, h, hf, j, hij, hj => by
    rw [fw] at h
    by_cases h1 : sz ≤ i
    · omega
    · rw [if_neg h1] at h
      by_cases h2 : c i = 2 ∨ n ≤ i
      · rw [if_pos h2] at h; cases h
      · rw [if_neg h2] at h
        by_cases h3 : P 0 0 = false ∨ P (i + 1) (a + c i) = false
        · rw [if_pos h3] at h; cases h
        · rw [if_neg h3] at h
          by_cases e : j = i
          · rw [e]
            exact fun z => h2 (Or.inl z)
          · exact fw_no h (by omega) j (by omega) hj
theorem c_wrong4 {M : am_M} {s n e sz : Nat} {P : Nat → Nat → Bool} (hn : n ≤ 24) (hC : CL M n e P) (h1 : M.1 2 s 0 1 = Int32.ofNat sz) (hsz : sz ≤ 40) : ∀ (m i a : Nat), i ≤ sz → a ≤ i → i ≤ n ∨ i = 0 → sz + 1 ≤ m + i → wp (l_X4_firstWrong_4 M s m (Int32.ofNat a) (Int32.ofNat i)) (fun y => y = enc (fw P n (fun j => vc (M.2 303 s 0 j)) sz m i a)) := by
  intro m
  induction m with
  | zero => intro i a h1 h2 h3; omega
  | succ m ih =>
    intro i a hi ha hin hm
    rw [l_X4_firstWrong_4, h1, hC.1, fw]
    refine wp_le (by omega) (by omega) (fun e => wp_some (by rw [if_pos e]; rfl)) (fun hlt => ?_)
    rw [if_neg (by omega)]
    have hv := vc_le (M.2 303 s 0 i)
    refine wp_be (c_slipAt h1 hsz hlt) ?_
    by_cases hc2 : vc (M.2 303 s 0 i) = 2
    · refine wp_pos ((sc_m hv).mpr hc2) (wp_some ?_)
      rw [if_pos (Or.inl hc2)]
      rfl
    · refine wp_neg (fun z => hc2 ((sc_m hv).mp z)) (wp_lt (by omega) (by omega) (fun hin => ?_) (fun hin => wp_some ?_))
      · rw [if_neg (by omega), sc_n (by omega), i_add]
        refine wp_let (wp_be (c_open (t := 0) (a := 0) hn hC (by omega) (by omega)) (wp_bz (fun e0 => wp_some ?_) (fun e0 => ?_)))
        · rw [if_pos (Or.inl e0)]
          rfl
        · rw [i_s]
          refine wp_be (c_open hn hC (show i + 1 ≤ n from by omega) (by omega)) (wp_bz (fun e1 => wp_some ?_) (fun e1 => wp_let ?_))
          · rw [if_pos (Or.inr e1)]
            rfl
          · rw [if_neg (by rw [e0, e1]; simp)]
            exact ih (i + 1) _ (by omega) (by omega) (by omega) (by omega)
      · rw [if_pos (Or.inr hin)]
        rfl
theorem r_room8 {M : am_M} {s n sz : Nat} {P : Nat → Nat → Bool} (hs : s < 8) (hn : n ≤ 24) (hR : RM M 0 n P) (h1 : M.1 602 0 0 s = Int32.ofNat sz) (hsz : sz ≤ 40) : ∀ (m i a : Nat), i ≤ sz → a ≤ i → i ≤ n ∨ i = 0 → (i = 0 ∨ P 0 0 = true) → sz + 1 ≤ m + i → wp (l_X5_noRoom_8 M 0 (Int32.ofNat s) m (Int32.ofNat a) (Int32.ofNat i)) (fun y => y = (enc (fw P n (fun j => vc (M.2 703 0 s j)) sz m i a), M)) := by
  intro m
  induction m with
  | zero => intro i a h1 h2 h3; omega
  | succ m ih =>
    intro i a hi ha hin h00 hm
    rw [l_X5_noRoom_8, i_cl (x := s) (by omega), h1, hR.1, fw]
    refine wp_inb hs (by omega) (wp_le (by omega) (by omega) (fun e => wp_some (by rw [if_pos e]; rfl)) (fun hlt => ?_))
    rw [if_neg (show ¬ sz ≤ i from by omega), i_cl (x := i) (by omega)]
    have hv := vc_le (M.2 703 0 s i)
    refine wp_inb hs (by omega) (wp_inb (by omega) (by omega) (wp_let (wp_be (vc_in M _) (wp_bz (fun e => wp_some ?_) (fun e => ?_)))))
    · rw [decide_eq_false_iff_not] at e
      rw [if_pos (Or.inl (by omega))]
      rfl
    · rw [decide_eq_true_eq] at e
      refine wp_le (by omega) (by omega) (fun e2 => wp_some ?_) (fun e2 => ?_)
      · rw [if_pos (Or.inr e2)]
        rfl
      · rw [if_neg (show ¬ (vc (M.2 703 0 s i) = 2 ∨ n ≤ i) from by omega), vc_32 e, i_add, i_s, show (0 : Int32).toNatClampNeg = 0 from rfl, hR.2 0 0 (by omega) (by omega), i_cl (x := i + 1) (by omega)]
        refine wp_ieq (y := 0) (by omega) (by omega) (fun e3 => wp_bz (fun e0 => wp_some ?_) (fun e0 => wp_let ?_)) (fun e3 => wp_let ?_)
        · rw [if_pos (Or.inl e0)]
          rfl
        · rw [i_cl (x := a + vc (M.2 703 0 s i)) (by omega), hR.2 (i + 1) (a + vc (M.2 703 0 s i)) (by omega) (by omega)]
          refine wp_inb (by omega) (by omega) (wp_inb (by omega) (by omega) (wp_bz (fun e1 => wp_some ?_) (fun e1 => wp_let ?_)))
          · rw [if_pos (Or.inr e1)]
            rfl
          · rw [if_neg (by rw [e0, e1]; simp)]
            exact ih (i + 1) _ (by omega) (by omega) (by omega) (Or.inr e0) (by omega)
        · have e0 : P 0 0 = true := by rcases h00 with z | z; exact absurd z e3; exact z
          rw [i_cl (x := a + vc (M.2 703 0 s i)) (by omega), hR.2 (i + 1) (a + vc (M.2 703 0 s i)) (by omega) (by omega)]
          refine wp_inb (by omega) (by omega) (wp_inb (by omega) (by omega) (wp_bz (fun e1 => wp_some ?_) (fun e1 => wp_let ?_)))
          · rw [if_pos (Or.inr e1)]
            rfl
          · rw [if_neg (by rw [e0, e1]; simp)]
            exact ih (i + 1) _ (by omega) (by omega) (by omega) (Or.inr e0) (by omega)
theorem fw_c {P : Nat → Nat → Bool} {n : Nat} {c d : Nat → Nat} {sz : Nat} (h : ∀ j, j < sz → c j = d j) : ∀ (f i a : Nat), fw P n c sz f i a = fw P n d sz f i a
  | 0, _, _ => rfl
  | f + 1, i, a => by
    rw [fw, fw]
    by_cases h1 : sz ≤ i
    · rw [if_pos h1, if_pos h1]
    · rw [if_neg h1, if_neg h1, h i (by omega), fw_c h f]
/-- a row on a shelf, as both see it -/
def sR3 (M : am_M) (s sz : Nat) (c : Nat → Nat) : Prop := sz ≤ 40 ∧ M.1 2 s 0 1 = Int32.ofNat sz ∧ M.1 602 0 0 s = Int32.ofNat sz ∧ ∀ j, j < sz → vc (M.2 303 s 0 j) = c j ∧ vc (M.2 703 0 s j) = c j
theorem sR3_of {M : am_M} {s k n : Nat} (h : sR M s k n) : ∃ c, sR3 M s n c :=
  ⟨fun j => vc (M.2 303 s 0 j), h.2.1, h.2.2.2.2.2.1, h.2.2.2.2.2.2.1, fun j hj => ⟨rfl, by have := h.2.1; show vc (M.2 703 0 s j) = vc (M.2 303 s 0 j); rw [h.2.2.2.2.2.2.2 j (by omega)]⟩⟩
theorem sR3.ag {M N : am_M} {s sz : Nat} {c : Nat → Nat} {S : kS} (h : sR3 M s sz c) (hk : keeps S M N) (hd : dj S tSh = true) : sR3 N s sz c := by
  have ha := hk.ag hd
  exact ⟨h.1, (ha 2 s 0 1 rfl).1.trans h.2.1, (ha 602 0 0 s rfl).1.trans h.2.2.1, fun j hj => by rw [(ha 303 s 0 j rfl).2, (ha 703 0 s j rfl).2]; exact h.2.2.2 j hj⟩
theorem c_wrong {M : am_M} {s n e sz : Nat} {c : Nat → Nat} {P : Nat → Nat → Bool} (hn : n ≤ 24) (hC : CL M n e P) (h : sR3 M s sz c) : f_X4_firstWrong M s = some (enc (fw P n c sz 1000 0 0)) := by
  unfold f_X4_firstWrong
  have hs := h.1
  have := wp_is (c_wrong4 hn hC h.2.1 h.1 1000 0 0 (by omega) (by omega) (by omega) (by omega))
  rw [fw_c (fun j hj => (h.2.2.2 j hj).1)] at this
  exact this
theorem r_room {M : am_M} {s sz : Nat} {c : Nat → Nat} {D : dd} (hs8 : s < 8) (w : WF D) (hR : RF M 0 D) (h : sR3 M s sz c) : wp (f_X5_noRoom M 0 (Int32.ofNat s)) (fun y => y.1 = enc (fw (PF D) (dn D) c sz 1000 0 0) ∧ RM y.2 0 (dn D) (PF D) ∧ keeps [(5, some 0, some 29), (728, some 0, none)] M y.2) := by
  unfold f_X5_noRoom
  have hs := h.1
  have hn := w.2.2.2.2.1
  refine wp_call (wp_km (r_seeAll w hR) fr_f_X5_seeAll) (fun N hN => ?_)
  have hN3 := h.ag hN.2 rfl
  refine wp_mono (r_room8 hs8 hn hN.1 hN3.2.2.1 hN3.1 1000 0 0 (by omega) (by omega) (by omega) (Or.inl rfl) (by omega)) (fun y hy => ?_)
  subst hy
  refine ⟨?_, hN.1, hN.2⟩
  show enc _ = _
  rw [fw_c (fun j hj => (hN3.2.2.2 j hj).2)]
theorem k_judge : ok_judge GT := by
  intro tr b M x1 h
  obtain ⟨⟨D, w, hD, hR⟩, _⟩ := id h
  have hn := w.2.2.2.2.1
  by_cases hc : 0 ≤ x1.toInt ∧ x1.toInt ≤ 7
  · obtain ⟨s, hs, rfl⟩ := i_nat (m := 7) hc
    have hs8 : s < 8 := by omega
    obtain ⟨c, hF, hr, hd⟩ := sF_c (h.2.1 s hs8)
    have ea := c_agR (M := M) hs8 hs8 hF hF
    have c3 : c = 2 ∨ c = 0 ∨ c = 1 := by have := hF.2.1; omega
    have en := r_noRow (M := ref4 M 3) hs8 ((ref4_600 M 3 s).trans hF.1) hF.2.1
    have en' := r_noRow (M := ref4 M 4) hs8 ((ref4_600 M 4 s).trans hF.1) hF.2.1
    rcases c3 with rfl | rfl | rfl
    · rw [if_pos (Or.inl rfl)] at ea
      rw [if_pos rfl] at en
      refine gt_r1 (g := fun N => f_X5_judge N 0 (Int32.ofNat s)) (v := (-3 : Int32)) (w := 3) (by omega) h (wp_is ?_) (wp_is ?_)
      · unfold f_X4_judge
        exact wp_be ea (wp_neg (by decide) (wp_be (x4_ref3 M) (wp_some rfl)))
      · unfold f_X5_judge
        exact wp_be en (wp_let (wp_neg (show ¬ (-3 : Int32) = 0 from by decide) (wp_some rfl)))
    · rw [if_neg (by decide), if_pos (Or.inl rfl)] at ea
      rw [if_neg (by decide), if_pos rfl] at en'
      refine gt_r1 (g := fun N => f_X5_judge N 0 (Int32.ofNat s)) (v := (-4 : Int32)) (w := 4) (by omega) h (wp_is ?_) (wp_is ?_)
      · unfold f_X4_judge
        exact wp_be ea (wp_neg (by decide) (wp_be (x4_ref4 M) (wp_some rfl)))
      · unfold f_X5_judge
        exact wp_be en' (wp_let (wp_neg (show ¬ (-4 : Int32) = 0 from by decide) (wp_some rfl)))
    · rw [if_neg (by decide), if_neg (by decide)] at ea
      obtain ⟨k, sz, hW⟩ := hr rfl
      obtain ⟨cc, h3⟩ := sR3_of hW
      refine gt_q (g := fun N => f_X5_judge N 0 (Int32.ofNat s)) (v := enc (fw (PF D) (dn D) cc sz 1000 0 0)) (S4 := [(0, some 0, some 0), (0, some 0, some 1), (103, some 0, none)]) (S5 := [(5, some 0, some 29), (728, some 0, none)]) h ?_ rfl (fun N hk => ?_) rfl
      · unfold f_X4_judge
        rw [i_cl (x := s) (by omega)]
        refine wp_be ea (wp_pos rfl (wp_call (wp_km (c_layFit w hD) fr_f_X0_layFitting) (fun N hN => wp_inb hs8 (by omega) (wp_be (c_wrong hn hN.1 (h3.ag hN.2 rfl)) (wp_some ⟨rfl, hN.2⟩)))))
      · have en1 := r_noRow (M := N) (c := 1) hs8 ((hk.i 600 0 0 s rfl).trans hF.1) (by omega)
        rw [if_neg (by decide), if_neg (by decide)] at en1
        unfold f_X5_judge
        exact wp_be en1 (wp_let (wp_pos rfl (wp_call (r_room hs8 w (hR.ag hk rfl) (h3.ag hk rfl)) (fun y hy => wp_some ⟨hy.1, hy.2.2⟩))))
  · refine gt_r0 (g := fun N => f_X5_judge N 0 x1) (v := (-2 : Int32)) (w := 2) (by omega) h (wp_is ?_) (fun N => wp_is ?_)
    · unfold f_X4_judge
      exact wp_be (c_agN (fun z => hc z.1)) (wp_neg (by decide) (wp_be (x4_ref2 M) (wp_some rfl)))
    · unfold f_X5_judge
      exact wp_be (r_noRowN hc) (wp_let (wp_neg (show ¬ (-2 : Int32) = 0 from by decide) (wp_some rfl)))
/-! what a told row is like -/
def lvn (c : Nat → Nat) (r : Nat) : Nat := sm (fun i => if 2 * sm c (i + 1) = i + 1 then 1 else 0) r
def grt (c : Nat → Nat) : Nat → Nat
  | 0 => 0
  | i + 1 => if grt c i + (i + 1) < 2 * sm c (i + 1) then 2 * sm c (i + 1) - (i + 1) else grt c i
theorem grt_le {c : Nat → Nat} {r : Nat} (hc : ∀ i, i < r → c i ≤ 1) : ∀ i, i ≤ r → grt c i ≤ i
  | 0, _ => Nat.le_refl _
  | i + 1, hi => by
    have h1 := grt_le hc i (by omega)
    have h2 := sm_le1 hc (i + 1) hi
    rw [grt]
    split <;> omega
theorem c_told13 {M : am_M} {s sz : Nat} {c : Nat → Nat} {a1 : Int32} (h : sR3 M s sz c) (hc : ∀ i, i < sz → c i ≤ 1) : ∀ (m i : Nat) (a5 : Int32), i ≤ sz → sz + 1 ≤ m + i → a5.toInt = 2 * (sm c i : Int) - i → wp (l_X4_toldOf_13 M s a1 m (Int32.ofNat (mom c i)) (Int32.ofNat (lvn c i)) (Int32.ofNat (grt c i)) a5 (Int32.ofNat i)) (fun y => y = (Int32.ofNat (mom c sz), Int32.ofNat (lvn c sz), Int32.ofNat (grt c sz))) := by
  have hsz := h.1
  intro m
  induction m with
  | zero => intro i a5 h1 h2; omega
  | succ m ih =>
    intro i a5 hi hm ha
    rw [l_X4_toldOf_13, h.2.1]
    refine wp_le (by omega) (by omega) (fun e => wp_some (by rw [show i = sz from by omega])) (fun hlt => ?_)
    have hs := hc i hlt
    have hb := sm_le1 hc i (by omega)
    have hb2 := sm_le1 hc (i + 1) (by omega)
    have hg := grt_le hc i (by omega)
    have tm1 : (-1 : Int32).toInt = -1 := by decide
    refine wp_be (c_slipAt h.2.1 h.1 hlt) ?_
    rw [(h.2.2.2 i hlt).1]
    refine wp_call (Q := fun z => z.toInt = 2 * (c i : Int) - 1) ?_ (fun z hz => wp_let ?_)
    · rw [sc_n (by omega)]
      refine wp_ieq (y := 1) (by omega) (by omega) (fun e => wp_some ?_) (fun e => wp_some ?_)
      · rw [t1, e]; rfl
      · rw [tm1, show c i = 0 from by omega]; rfl
    have e2 : (a5 + z).toInt = 2 * (sm c (i + 1) : Int) - (i + 1 : Nat) := by
      rw [i_tadd (by omega) (by omega), ha, hz, sm]
      omega
    refine wp_call (Q := fun v => v = Int32.ofNat (if i + 1 < 2 * sm c (i + 1) then 1 else 0)) (wp_tl (fun e => wp_some ?_) (fun e => wp_some ?_)) (fun v hv => wp_let ?_)
    · rw [e2, t0] at e
      rw [if_neg (by omega)]; rfl
    · rw [e2, t0] at e
      rw [if_pos (by omega)]; rfl
    refine wp_call (Q := fun v => v = Int32.ofNat (if 2 * sm c (i + 1) = i + 1 then 1 else 0)) (wp_te (fun e => wp_some ?_) (fun e => wp_some ?_)) (fun v' hv' => wp_let (wp_let (wp_let ?_)))
    · rw [e2, t0] at e
      rw [if_pos (by omega)]; rfl
    · rw [e2, t0] at e
      rw [if_neg (by omega)]; rfl
    have e3 : (if Int32.ofNat (grt c i) < a5 + z then a5 + z else Int32.ofNat (grt c i)) = Int32.ofNat (grt c (i + 1)) := by
      rw [grt]
      by_cases hlt2 : Int32.ofNat (grt c i) < a5 + z
      · rw [if_pos hlt2]
        rw [Int32.lt_iff_toInt_lt, e2, i_ti (by omega)] at hlt2
        rw [if_pos (by omega)]
        exact i_fromT (by omega)
      · rw [if_neg hlt2]
        rw [Int32.lt_iff_toInt_lt, e2, i_ti (by omega)] at hlt2
        rw [if_neg (by omega)]
    rw [hv, hv', e3, i_add, i_add, i_s]
    exact ih (i + 1) _ (by omega) (by omega) e2
theorem c_toldOf {M : am_M} {s sz x : Nat} {c : Nat → Nat} (h : sR3 M s sz c) (hc : ∀ i, i < sz → c i ≤ 1) (hx : x ≤ 2) : f_X4_toldOf M s (Int32.ofNat x) = some (Int32.ofNat (if x = 2 then grt c sz else if x = 0 then mom c sz else lvn c sz)) := by
  have hsz := h.1
  unfold f_X4_toldOf
  refine wp_is (wp_call (c_told13 h hc 1000 0 0 (by omega) (by omega) rfl) (fun y hy => ?_))
  subst hy
  exact wp_ieq (y := 2) (by omega) (by omega) (fun e => wp_some (by rw [if_pos e])) (fun e => wp_ieq (y := 0) (by omega) (by omega) (fun e0 => wp_some (by rw [if_neg e, if_pos e0])) (fun e0 => wp_some (by rw [if_neg e, if_neg e0])))
theorem r_told11 {M : am_M} {s n x : Nat} {c : Nat → Nat} (hs : s < 8) (hn : n ≤ 24) (hx : x ≤ 2) (h5 : M.1 5 0 0 29 = Int32.ofNat n) (h : sR3 M s n c) (hc : ∀ i, i < n → c i ≤ 1) : ∀ (m i : Nat), i ≤ n → n + 1 ≤ m + i → wp (l_X5_ofTold_11 M 0 (Int32.ofNat s) (Int32.ofNat x) m (Int32.ofNat (sm c i)) (Int32.ofNat (if x = 0 then mom c i else lvn c i)) (Int32.ofNat (grt c i)) (Int32.ofNat (i + 1))) (fun y => y = (Int32.ofNat (if x = 0 then mom c n else lvn c n), Int32.ofNat (grt c n))) := by
  intro m
  induction m with
  | zero => intro i h1 h2; omega
  | succ m ih =>
    intro i hi hm
    rw [l_X5_ofTold_11, h5]
    refine wp_lt (by omega) (by omega) (fun e => wp_some (by rw [show i = n from by omega])) (fun hlt => ?_)
    have hs1 := hc i (by omega)
    have hb2 := sm_le1 hc (i + 1) (by omega)
    have hg := grt_le hc i (by omega)
    have hv := (h.2.2.2 i (by omega)).2
    rw [i_m, i_cl (x := s) (by omega), i_cl (x := i) (by omega), vc_32 (by rw [hv]; omega), hv, i_add]
    have es : sm c i + c i = sm c (i + 1) := rfl
    rw [es]
    have e2 := i_lead (t := i + 1) (a := sm c (i + 1)) (by omega) (by omega)
    refine wp_inb hs (by omega) (wp_inb (by omega) (by omega) (wp_let (wp_let ?_)))
    refine wp_call (Q := fun v => v = Int32.ofNat (if x = 0 then (if i + 1 < 2 * sm c (i + 1) then 1 else 0) else (if 2 * sm c (i + 1) = i + 1 then 1 else 0))) ?_ (fun v hv => wp_let ?_)
    · refine wp_ieq (y := 0) (by omega) (by omega) (fun e0 => ?_) (fun e0 => ?_)
      · rw [if_pos e0]
        refine wp_tl (fun e => wp_some ?_) (fun e => wp_some ?_)
        · rw [e2, t0] at e
          rw [if_neg (by omega)]; rfl
        · rw [e2, t0] at e
          rw [if_pos (by omega)]; rfl
      · rw [if_neg e0]
        refine wp_te (fun e => wp_some ?_) (fun e => wp_some ?_)
        · rw [e2, t0] at e
          rw [if_pos (by omega)]; rfl
        · rw [e2, t0] at e
          rw [if_neg (by omega)]; rfl
    · refine wp_call (Q := fun z => z = Int32.ofNat (grt c (i + 1))) (wp_tl (fun e => wp_some ?_) (fun e => wp_some ?_)) (fun z hz => wp_let ?_)
      · rw [e2, i_ti (by omega)] at e
        rw [grt, if_neg (by omega)]
      · rw [e2, i_ti (by omega)] at e
        rw [grt, if_pos (by omega)]
        exact i_fromT (by rw [e2]; omega)
      · rw [hz, hv, i_add, i_s]
        have := ih (i + 1) (by omega) (by omega)
        by_cases e0 : x = 0
        · simp only [if_pos e0] at this ⊢
          exact this
        · simp only [if_neg e0] at this ⊢
          exact this
theorem r_ofTold {M : am_M} {s n x : Nat} {c : Nat → Nat} (hs : s < 8) (hn : n ≤ 24) (hx : x ≤ 2) (h5 : M.1 5 0 0 29 = Int32.ofNat n) (h : sR3 M s n c) (hc : ∀ i, i < n → c i ≤ 1) : f_X5_ofTold M 0 (Int32.ofNat s) (Int32.ofNat x) = some (Int32.ofNat (if x = 2 then grt c n else if x = 0 then mom c n else lvn c n)) := by
  unfold f_X5_ofTold
  have := r_told11 hs hn hx h5 h hc 1000 0 (by omega) (by omega)
  have e0 : (if x = 0 then mom c 0 else lvn c 0) = 0 := by split <;> rfl
  rw [e0] at this
  refine wp_is (wp_call this (fun y hy => ?_))
  subst hy
  exact wp_ieq (y := 2) (by omega) (by omega) (fun e => wp_some (by rw [if_pos e])) (fun e => wp_some (by rw [if_neg e]))
