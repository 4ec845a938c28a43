/-! calls that change the drum -/
def tRest : kS := [(2, none, none), (303, none, none), (600, some 0, none), (601, some 0, none), (602, some 0, none), (605, some 0, none), (606, some 0, none), (703, some 0, none), (3, some 0, some 0), (402, some 0, none), (5, some 0, some 8), (607, some 0, none), (507, some 0, none), (609, some 0, none), (4, some 0, some 8), (1, some 1, none), (203, some 1, none), (204, some 1, none), (205, some 1, none), (208, some 1, none), (210, some 1, none), (211, some 1, none), (212, some 1, none), (5, some 2, some 10), (5, some 2, some 16), (5, some 2, some 14), (5, some 2, some 18), (611, some 2, none), (612, some 2, none), (613, some 2, none), (617, some 2, none), (715, some 2, none)]
theorem tE_D1 : ∀ d ∈ tD 1, d ∈ tRest := by decide +kernel
theorem tE_R2 : ∀ d ∈ tR5 2, d ∈ tRest := by decide +kernel
theorem tE_Sh : ∀ d ∈ tSh, d ∈ tRest := by decide +kernel
theorem tE_Tp : ∀ d ∈ tTp, d ∈ tRest := by decide +kernel
theorem tE_Rf : ∀ d ∈ tRf, d ∈ tRest := by decide +kernel
theorem tE_K4 : ∀ d ∈ tK4, d ∈ tRest := by decide +kernel
def gtE (w : Nat) (b : Bool) (M : am_M) : Prop := gtS M ∧ gtT M ∧ gtR w M ∧ gtK b M
theorem gtE.ag {M N : am_M} {S : kS} {w : Nat} {b : Bool} (h : gtE w b M) (hk : keeps S M N) (hd : dj S tRest = true) : gtE w b N :=
  ⟨h.1.ag hk (djM hd tE_Sh), h.2.1.ag hk (djM hd tE_Tp), h.2.2.1.ag hk (djM hd tE_Rf), h.2.2.2.ag hk (djM hd tE_K4) (djM hd tE_D1) (djM hd tE_R2)⟩
theorem gt_d {S4 S5 : kS} {M N4 N5 : am_M} {D : dd} {tr b : Bool} (h : GT tr b M) (k4 : keeps S4 M N4) (k5 : keeps S5 N4 N5) (w : WF D) (hD : DR N4 0 D) (hR : RF N5 0 D) (d5 : dj S5 (tD 0) = true) (e4 : dj S4 tRest = true) (e5 : dj S5 tRest = true) : GT tr b N5 :=
  ⟨⟨D, w, hD.ag k5 d5, hR⟩, gtE.ag (gtE.ag h.2 k4 e4) k5 e5⟩
theorem k_heap : ok_heap GT := by
  intro tr b M x1 x2 h
  obtain ⟨⟨D, w, hD, hR⟩, _⟩ := id h
  obtain ⟨w1, w2, w3, w4, w5, w6, w7, w8, w9, w10⟩ := id w
  obtain ⟨h1, h2, h3, h4, h5, h6, h7, h8, h9, h10⟩ := id hD
  by_cases hc : (0 ≤ x1.toInt ∧ x1.toInt ≤ 9) ∧ (0 ≤ x2.toInt ∧ x2.toInt ≤ 9) ∧ ¬ (x1 + x2) = 0
  · obtain ⟨c1, c2, c3⟩ := hc
    obtain ⟨p, hp, rfl⟩ := i_nat (m := 9) c1
    obtain ⟨q, hq, rfl⟩ := i_nat (m := 9) c2
    rw [i_add] at c3
    have hpq : 1 ≤ p + q := by
      by_cases e : p + q = 0
      · rw [e] at c3
        exact absurd rfl c3
      · omega
    by_cases hr : dr D = 0
    · by_cases hf : dh D < 4 ∧ dn D + p + q ≤ 24
      · obtain ⟨y, e4, ⟨y1, y2⟩, k4⟩ := wp_kp (c_layIn (a := p) (b := q) w hD hf.1) fr_f_X1_layIn
        have hR4 : RF y.2 0 D := hR.ag k4 rfl
        obtain ⟨N5, e5, r5, k5⟩ := wp_km (r_addHeap (a := p) (b := q) hR4 hf.1) fr_f_X5_addHeap
        refine ⟨(Int32.ofNat (dh D), y.2), (Int32.ofNat (dh D), N5), wp_is ?_, wp_is ?_, rfl, gt_d h k4 k5 (w.addH hf.1 hp hq hpq hf.2 hr) y2 r5 rfl rfl rfl⟩
        · unfold f_X4_heap f_X1_hasRoom
          rw [h1, h2, h5, i_add, i_add, hr]
          exact wp_be (f_w M _ (m := 9) (by decide)) (wp_neg (bz_dn c1) (wp_be (f_w M _ (m := 9) (by decide)) (wp_neg (bz_dn c2) (wp_neg c3 (wp_pos (by decide) (wp_le (x := 4) (by omega) (by omega) (fun e => absurd e (by omega)) (fun _ => wp_call (wp_lt (x := 24) (by omega) (by omega) (fun e => absurd e (by omega)) (fun _ => wp_some rfl)) (fun z hz => by subst hz; exact wp_neg (by decide) (wp_be e4 (wp_some (by rw [← y1]))))))))))) 
        · unfold f_X5_heap
          rw [hR4.1, hR4.2.2.1, i_add, hr]
          refine wp_be (f_i _ _ (l := 0) (m := 9) (by decide) (by decide)) (wp_neg (bz_dn c1) (wp_be (f_i _ _ (l := 0) (m := 9) (by decide) (by decide)) (wp_neg (bz_dn c2) (wp_neg c3 (wp_pos (by decide) (wp_ieq (y := 4) (by omega) (by omega) (fun e => absurd e (by omega)) (fun _ => wp_be (r_all w.H hR4.H) ?_)))))))
          rw [i_add, i_add]
          refine wp_le (y := 24) (by omega) (by omega) (fun _ => wp_be e5 (wp_some ?_)) (fun e => absurd e (by omega))
          rw [r5.1]
          show (Int32.ofNat (dh D + 1) - 1, N5) = _
          rw [i_m]
      · refine gt_r1 (g := fun N => f_X5_heap N 0 (Int32.ofNat p) (Int32.ofNat q)) (v := (-6 : Int32)) (w := 6) (by omega) h (wp_is ?_) (wp_is ?_)
        · unfold f_X4_heap f_X1_hasRoom
          rw [h1, h2, h5, i_add, i_add, hr]
          exact wp_be (f_w M _ (m := 9) (by decide)) (wp_neg (bz_dn c1) (wp_be (f_w M _ (m := 9) (by decide)) (wp_neg (bz_dn c2) (wp_neg c3 (wp_pos (by decide) (wp_le (x := 4) (by omega) (by omega) (fun _ => wp_be (x4_ref6 M) (wp_some rfl)) (fun e => wp_call (wp_lt (x := 24) (by omega) (by omega) (fun _ => wp_some rfl) (fun e => absurd e (by omega))) (fun z hz => by subst hz; exact wp_pos (by decide) (wp_be (x4_ref6 M) (wp_some rfl)))))))))) 
        · have hR4 : RF (ref4 M 6) 0 D := hR.ag (ref4_k M 6) rfl
          unfold f_X5_heap
          rw [hR4.1, hR4.2.2.1, i_add, hr]
          refine wp_be (f_i _ _ (l := 0) (m := 9) (by decide) (by decide)) (wp_neg (bz_dn c1) (wp_be (f_i _ _ (l := 0) (m := 9) (by decide) (by decide)) (wp_neg (bz_dn c2) (wp_neg c3 (wp_pos (by decide) (wp_ieq (y := 4) (by omega) (by omega) (fun _ => wp_be (x5_ref6 _) (wp_some rfl)) (fun e => wp_be (r_all w.H hR4.H) ?_)))))))
          rw [i_add, i_add]
          exact wp_le (y := 24) (by omega) (by omega) (fun e => absurd e (by omega)) (fun _ => wp_be (x5_ref6 _) (wp_some rfl))
    · refine gt_r1 (g := fun N => f_X5_heap N 0 (Int32.ofNat p) (Int32.ofNat q)) (v := (-5 : Int32)) (w := 5) (by omega) h (wp_is ?_) (wp_is ?_)
      · unfold f_X4_heap
        rw [h5, i_add]
        exact wp_be (f_w M _ (m := 9) (by decide)) (wp_neg (bz_dn c1) (wp_be (f_w M _ (m := 9) (by decide)) (wp_neg (bz_dn c2) (wp_neg c3 (wp_le (y := 0) (by omega) (by omega) (fun e => absurd e (by omega)) (fun _ => wp_be (x4_ref5 M) (wp_some rfl)))))))
      · have hR4 : RF (ref4 M 5) 0 D := hR.ag (ref4_k M 5) rfl
        unfold f_X5_heap
        rw [hR4.2.2.1, i_add]
        exact wp_be (f_i _ _ (l := 0) (m := 9) (by decide) (by decide)) (wp_neg (bz_dn c1) (wp_be (f_i _ _ (l := 0) (m := 9) (by decide) (by decide)) (wp_neg (bz_dn c2) (wp_neg c3 (wp_le (y := 0) (by omega) (by omega) (fun e => absurd e (by omega)) (fun _ => wp_be (x5_ref5 _) (wp_some rfl)))))))
  · refine gt_r0 (g := fun N => f_X5_heap N 0 x1 x2) (v := (-2 : Int32)) (w := 2) (by omega) h (wp_is ?_) (fun N => wp_is ?_)
    · unfold f_X4_heap
      refine wp_be (f_w M _ (m := 9) (by decide)) (wp_bz (fun _ => wp_be (x4_ref2 M) (wp_some rfl)) (fun e1 => wp_be (f_w M _ (m := 9) (by decide)) (wp_bz (fun _ => wp_be (x4_ref2 M) (wp_some rfl)) (fun e2 => wp_ite (fun _ => wp_be (x4_ref2 M) (wp_some rfl)) (fun e3 => ?_)))))
      rw [decide_eq_true_eq] at e1 e2
      exact absurd ⟨e1, e2, e3⟩ hc
    · unfold f_X5_heap
      refine wp_be (f_i N _ (l := 0) (m := 9) (by decide) (by decide)) (wp_bz (fun _ => wp_be (x5_ref2 N) (wp_some rfl)) (fun e1 => wp_be (f_i N _ (l := 0) (m := 9) (by decide) (by decide)) (wp_bz (fun _ => wp_be (x5_ref2 N) (wp_some rfl)) (fun e2 => wp_ite (fun _ => wp_be (x5_ref2 N) (wp_some rfl)) (fun e3 => ?_)))))
      rw [decide_eq_true_eq] at e1 e2
      exact absurd ⟨e1, e2, e3⟩ hc
/-! facts -/
theorem r_pushF {M : am_M} {o k t v : Nat} {D : dd} (h : RF M o D) : RF (am_si (am_si (am_si (am_si M 715 o (df D) 0 (Int32.ofNat k)) 715 o (df D) 1 (Int32.ofNat t)) 715 o (df D) 2 (Int32.ofNat v)) 5 o 0 14 (Int32.ofNat (df D + 1))) o (dAddF D k t v) := by
  obtain ⟨h1, h2, h3, h4', h5, h6, h7⟩ := id h
  refine ⟨?_, fun i hi => ⟨?_, ?_, ?_⟩, ?_, fun i hi => ?_, ?_, fun i hi => ⟨?_, ?_, ?_⟩, ?_⟩
  · rw [si_j (by decide), si_k (by decide), si_k (by decide), si_k (by decide)]; exact h1
  · rw [si_k (by decide), si_k (by decide), si_k (by decide), si_k (by decide)]; exact (h2 i hi).1
  · rw [si_k (by decide), si_k (by decide), si_k (by decide), si_k (by decide)]; exact (h2 i hi).2.1
  · rw [si_k (by decide), si_k (by decide), si_k (by decide), si_k (by decide)]; exact (h2 i hi).2.2
  · rw [si_j (by decide), si_k (by decide), si_k (by decide), si_k (by decide)]; exact h3
  · rw [si_k (by decide), si_k (by decide), si_k (by decide), si_k (by decide)]; exact h4' i hi
  · rw [am_si_self]
    rfl
  · have hi : i < df D + 1 := hi
    rw [si_k (by decide), si_j (by decide), si_j (by decide), si2]
    show _ = Int32.ofNat (up (dK D) (df D) k i)
    by_cases e : i = df D
    · rw [if_pos ⟨e, rfl⟩, e, up_e]
    · rw [if_neg (fun z => e z.1), up_n e]
      exact (h6 i (by omega)).1
  · have hi : i < df D + 1 := hi
    rw [si_k (by decide), si_j (by decide), si2, si_j (by decide)]
    show _ = Int32.ofNat (up (dT D) (df D) t i)
    by_cases e : i = df D
    · rw [if_pos ⟨e, rfl⟩, e, up_e]
    · rw [if_neg (fun z => e z.1), up_n e]
      exact (h6 i (by omega)).2.1
  · have hi : i < df D + 1 := hi
    rw [si_k (by decide), si2, si_j (by decide), si_j (by decide)]
    show _ = Int32.ofNat (up (dV D) (df D) v i)
    by_cases e : i = df D
    · rw [if_pos ⟨e, rfl⟩, e, up_e]
    · rw [if_neg (fun z => e z.1), up_n e]
      exact (h6 i (by omega)).2.2
  · rw [si_j (by decide), si_k (by decide), si_k (by decide), si_k (by decide)]; exact h7
theorem r_fact {M : am_M} {k t v : Nat} {D : dd} (h : RF M 0 D) (h4 : df D < 4) (hk : k ≤ 3) (ht : t ≤ 24) (hv : v ≤ 24) : wp (f_X5_fact M 0 (Int32.ofNat k) (Int32.ofNat t) (Int32.ofNat v)) (fun y => y.1 = Int32.ofNat (df D) ∧ RF y.2 0 (dAddF D k t v) ∧ keeps [(5, some 0, some 14), (715, some 0, none)] M y.2) := by
  have h5 := h.2.2.2.2.1
  unfold f_X5_fact
  rw [h5]
  refine wp_be (f_i M _ (l := 0) (m := 3) (by decide) (by decide)) (wp_neg (bz_dn (by rw [i_ti (by omega)]; omega)) (wp_be (f_i M _ (l := 0) (m := 24) (by decide) (by decide)) (wp_neg (bz_dn (by rw [i_ti (by omega)]; omega)) (wp_be (f_i M _ (l := 0) (m := 24) (by decide) (by decide)) (wp_neg (bz_dn (by rw [i_ti (by omega)]; omega)) (wp_ieq (y := 4) (by omega) (by omega) (fun e => absurd e (by omega)) (fun _ => wp_inb h4 (by omega) (wp_let ?_))))))))
  rw [si_k (k' := 5) (by decide), h5]
  refine wp_inb h4 (by omega) (wp_let ?_)
  rw [si_k (k' := 5) (by decide), si_k (k' := 5) (by decide), h5]
  refine wp_inb h4 (by omega) (wp_let (wp_let (wp_some ?_)))
  rw [si_k (k' := 5) (by decide), si_k (k' := 5) (by decide), si_k (k' := 5) (by decide), h5, i_cl (x := df D) (by omega), i_s]
  exact ⟨rfl, r_pushF h, ((((keeps.rf _ M).si rfl).si rfl).si rfl).si rfl⟩
theorem k_fact : ok_fact GT := by
  intro tr b M x1 x2 x3 h
  obtain ⟨⟨D, w, hD, hR⟩, _⟩ := id h
  obtain ⟨w1, w2, w3, w4, w5, w6, w7, w8, w9, w10⟩ := id w
  obtain ⟨h1, h2, h3, h4, h5, h6, h7, h8, h9, h10⟩ := id hD
  by_cases hc : (0 ≤ x1.toInt ∧ x1.toInt ≤ 3) ∧ (0 ≤ x2.toInt ∧ x2.toInt ≤ 24) ∧ (0 ≤ x3.toInt ∧ x3.toInt ≤ 24)
  · obtain ⟨c1, c2, c3⟩ := hc
    obtain ⟨k, hk, rfl⟩ := i_nat (m := 3) c1
    obtain ⟨t, ht, rfl⟩ := i_nat (m := 24) c2
    obtain ⟨v, hv, rfl⟩ := i_nat (m := 24) c3
    by_cases hf : df D < 4
    · obtain ⟨y, e4, ⟨y1, y2⟩, k4⟩ := wp_kp (c_remember (k := k) (t := t) (v := v) hD hf) fr_f_X1_remember
      obtain ⟨z, e5, z1, z2, k5⟩ := r_fact (hR.ag k4 rfl) hf hk ht hv
      refine ⟨(Int32.ofNat (df D), y.2), z, wp_is ?_, e5, z1.symm, gt_d h k4 k5 (w.addF hf hk ht hv) y2 z2 rfl rfl rfl⟩
      unfold f_X4_fact
      rw [h8]
      exact wp_be (f_w M _ (m := 3) (by decide)) (wp_neg (bz_dn c1) (wp_be (f_w M _ (m := 24) (by decide)) (wp_neg (bz_dn c2) (wp_be (f_w M _ (m := 24) (by decide)) (wp_neg (bz_dn c3) (wp_lt (y := 4) (by omega) (by omega) (fun _ => wp_be e4 (wp_some (by rw [← y1]))) (fun e => absurd e (by omega))))))))
    · refine gt_r1 (g := fun N => f_X5_fact N 0 (Int32.ofNat k) (Int32.ofNat t) (Int32.ofNat v)) (v := (-6 : Int32)) (w := 6) (by omega) h (wp_is ?_) (wp_is ?_)
      · unfold f_X4_fact
        rw [h8]
        exact wp_be (f_w M _ (m := 3) (by decide)) (wp_neg (bz_dn c1) (wp_be (f_w M _ (m := 24) (by decide)) (wp_neg (bz_dn c2) (wp_be (f_w M _ (m := 24) (by decide)) (wp_neg (bz_dn c3) (wp_lt (y := 4) (by omega) (by omega) (fun e => absurd e (by omega)) (fun _ => wp_be (x4_ref6 M) (wp_some rfl))))))))
      · have hR4 : RF (ref4 M 6) 0 D := hR.ag (ref4_k M 6) rfl
        unfold f_X5_fact
        rw [hR4.2.2.2.2.1]
        exact wp_be (f_i _ _ (l := 0) (m := 3) (by decide) (by decide)) (wp_neg (bz_dn c1) (wp_be (f_i _ _ (l := 0) (m := 24) (by decide) (by decide)) (wp_neg (bz_dn c2) (wp_be (f_i _ _ (l := 0) (m := 24) (by decide) (by decide)) (wp_neg (bz_dn c3) (wp_ieq (y := 4) (by omega) (by omega) (fun _ => wp_be (x5_ref6 _) (wp_some rfl)) (fun e => absurd e (by omega))))))))
  · refine gt_r0 (g := fun N => f_X5_fact N 0 x1 x2 x3) (v := (-2 : Int32)) (w := 2) (by omega) h (wp_is ?_) (fun N => wp_is ?_)
    · unfold f_X4_fact
      refine wp_be (f_w M _ (m := 3) (by decide)) (wp_bz (fun _ => wp_be (x4_ref2 M) (wp_some rfl)) (fun e1 => wp_be (f_w M _ (m := 24) (by decide)) (wp_bz (fun _ => wp_be (x4_ref2 M) (wp_some rfl)) (fun e2 => wp_be (f_w M _ (m := 24) (by decide)) (wp_bz (fun _ => wp_be (x4_ref2 M) (wp_some rfl)) (fun e3 => ?_))))))
      rw [decide_eq_true_eq] at e1 e2 e3
      exact absurd ⟨e1, e2, e3⟩ hc
    · unfold f_X5_fact
      refine wp_be (f_i N _ (l := 0) (m := 3) (by decide) (by decide)) (wp_bz (fun _ => wp_be (x5_ref2 N) (wp_some rfl)) (fun e1 => wp_be (f_i N _ (l := 0) (m := 24) (by decide) (by decide)) (wp_bz (fun _ => wp_be (x5_ref2 N) (wp_some rfl)) (fun e2 => wp_be (f_i N _ (l := 0) (m := 24) (by decide) (by decide)) (wp_bz (fun _ => wp_be (x5_ref2 N) (wp_some rfl)) (fun e3 => ?_))))))
      rw [decide_eq_true_eq] at e1 e2 e3
      exact absurd ⟨e1, e2, e3⟩ hc
/-! forget -/
theorem c_drop2 {o F : Nat} (hF : F ≤ 4) : ∀ (m j : Nat) (M : am_M), j ≤ F → F + 1 ≤ m + j → M.1 1 o 0 9 = Int32.ofNat F → wp (l_X1_dropFact_2 o m (Int32.ofNat j) M) (fun N => ∀ x, N.1 210 o 0 x = (if j ≤ x ∧ x + 1 < F then M.1 210 o 0 (x + 1) else M.1 210 o 0 x) ∧ N.1 211 o 0 x = (if j ≤ x ∧ x + 1 < F then M.1 211 o 0 (x + 1) else M.1 211 o 0 x) ∧ N.1 212 o 0 x = (if j ≤ x ∧ x + 1 < F then M.1 212 o 0 (x + 1) else M.1 212 o 0 x)) := by
  intro m
  induction m with
  | zero => intro j M h1 h2; omega
  | succ m ih =>
    intro j M hj hm h9
    rw [l_X1_dropFact_2, h9, i_s]
    refine wp_le (by omega) (by omega) (fun e => wp_some (fun x => by rw [if_neg (by omega), if_neg (by omega), if_neg (by omega)]; exact ⟨rfl, rfl, rfl⟩)) (fun e => ?_)
    rw [i_cl (x := j + 1) (by omega), i_cl (x := j) (by omega)]
    have st : ∀ N0 : am_M, N0.1 1 o 0 9 = Int32.ofNat F → (∀ y, N0.1 210 o 0 y = if y = j then M.1 210 o 0 (j + 1) else M.1 210 o 0 y) → (∀ y, N0.1 211 o 0 y = if y = j then M.1 211 o 0 (j + 1) else M.1 211 o 0 y) → (∀ y, N0.1 212 o 0 y = if y = j then M.1 212 o 0 (j + 1) else M.1 212 o 0 y) → wp (l_X1_dropFact_2 o m (Int32.ofNat (j + 1)) N0) (fun N => ∀ x, N.1 210 o 0 x = (if j ≤ x ∧ x + 1 < F then M.1 210 o 0 (x + 1) else M.1 210 o 0 x) ∧ N.1 211 o 0 x = (if j ≤ x ∧ x + 1 < F then M.1 211 o 0 (x + 1) else M.1 211 o 0 x) ∧ N.1 212 o 0 x = (if j ≤ x ∧ x + 1 < F then M.1 212 o 0 (x + 1) else M.1 212 o 0 x)) := by
      intro N0 z9 z0 z1 z2
      refine wp_mono (ih (j + 1) N0 (by omega) (by omega) z9) (fun N hN x => ?_)
      obtain ⟨n1, n2, n3⟩ := hN x
      rw [n1, n2, n3, z0, z0, z1, z1, z2, z2]
      by_cases hx : x = j
      · rw [if_neg (show ¬ (j + 1 ≤ x ∧ x + 1 < F) from by omega), if_neg (show ¬ (j + 1 ≤ x ∧ x + 1 < F) from by omega), if_neg (show ¬ (j + 1 ≤ x ∧ x + 1 < F) from by omega), if_pos hx, if_pos hx, if_pos hx, if_pos (show j ≤ x ∧ x + 1 < F from by omega), if_pos (show j ≤ x ∧ x + 1 < F from by omega), if_pos (show j ≤ x ∧ x + 1 < F from by omega), hx]
        exact ⟨rfl, rfl, rfl⟩
      · by_cases hd : j ≤ x ∧ x + 1 < F
        · rw [if_pos (show j + 1 ≤ x ∧ x + 1 < F from by omega), if_pos (show j + 1 ≤ x ∧ x + 1 < F from by omega), if_pos (show j + 1 ≤ x ∧ x + 1 < F from by omega), if_pos hd, if_pos hd, if_pos hd, if_neg (show ¬ x + 1 = j from by omega), if_neg (show ¬ x + 1 = j from by omega), if_neg (show ¬ x + 1 = j from by omega)]
          exact ⟨rfl, rfl, rfl⟩
        · rw [if_neg (show ¬ (j + 1 ≤ x ∧ x + 1 < F) from by omega), if_neg (show ¬ (j + 1 ≤ x ∧ x + 1 < F) from by omega), if_neg (show ¬ (j + 1 ≤ x ∧ x + 1 < F) from by omega), if_neg hd, if_neg hd, if_neg hd, if_neg hx, if_neg hx, if_neg hx]
          exact ⟨rfl, rfl, rfl⟩
    refine wp_inb (by omega) (by omega) (wp_inb (by omega) (by omega) (wp_let (wp_inb (by omega) (by omega) (wp_inb (by omega) (by omega) (wp_let (wp_inb (by omega) (by omega) (wp_inb (by omega) (by omega) (wp_let (wp_let (st _ ?_ (fun y => ?_) (fun y => ?_) (fun y => ?_)))))))))))
    · rw [si_k (by decide), si_k (by decide), si_k (by decide)]
      exact h9
    · rw [si_k (by decide), si_k (by decide), si_e]
    · rw [si_k (by decide), si_e, si_k (by decide), si_k (by decide)]
    · rw [si_e, si_k (by decide), si_k (by decide), si_k (by decide), si_k (by decide)]
theorem c_dropFact {M : am_M} {o i : Nat} {D : dd} (w : WF D) (h : DR M o D) (hi : i < df D) : wp (f_X1_dropFact M o (Int32.ofNat i)) (fun y => y.1 = Int32.ofNat (df D - 1) ∧ DR y.2 o (dDrop D i)) := by
  obtain ⟨h1, h2, h3, h4', h5, h6, h7, h8, h9, h10⟩ := id h
  have w9 := w.2.2.2.2.2.2.2.2.1
  unfold f_X1_dropFact
  refine wp_call (wp_km (c_drop2 w9 1000 i M (by omega) (by omega) h8) (fr_l_X1_dropFact_2 _ _ _)) (fun N hN => wp_let (wp_some ?_))
  obtain ⟨hN, hk⟩ := hN
  have e9 : N.1 1 o 0 9 - 1 = Int32.ofNat (df D - 1) := by
    rw [(hk.i 1 o 0 9 rfl).trans h8, show (1 : Int32) = Int32.ofNat 1 from rfl, i_sub (by omega)]
  rw [e9, am_si_self]
  refine ⟨rfl, ?_, ?_, ?_, fun x hx => ⟨?_, ?_, ?_⟩, ?_, ?_, fun x hx => ?_, ?_, fun x hx => ⟨?_, ?_, ?_⟩, ?_⟩
  · rw [si_j (by decide), hk.i 1 o 0 0 rfl]; exact h1
  · rw [si_j (by decide), hk.i 1 o 0 1 rfl]; exact h2
  · rw [si_j (by decide), hk.i 1 o 0 2 rfl]; exact h3
  · rw [si_k (by decide), hk.i 203 o 0 x rfl]; exact (h4' x hx).1
  · rw [si_k (by decide), hk.i 204 o 0 x rfl]; exact (h4' x hx).2.1
  · rw [si_k (by decide), hk.i 205 o 0 x rfl]; exact (h4' x hx).2.2
  · rw [si_j (by decide), hk.i 1 o 0 6 rfl]; exact h5
  · rw [si_j (by decide), hk.i 1 o 0 7 rfl]; exact h6
  · rw [si_k (by decide), hk.i 208 o 0 x rfl]; exact h7 x hx
  · rw [am_si_self]
    rfl
  · have hx : x < df D - 1 := hx
    rw [si_k (by decide), (hN x).1]
    show _ = Int32.ofNat (skp (dK D) i x)
    unfold skp
    by_cases e : x < i
    · rw [if_pos e, if_neg (by omega)]; exact (h9 x (by omega)).1
    · rw [if_neg e, if_pos (by omega)]; exact (h9 (x + 1) (by omega)).1
  · have hx : x < df D - 1 := hx
    rw [si_k (by decide), (hN x).2.1]
    show _ = Int32.ofNat (skp (dT D) i x)
    unfold skp
    by_cases e : x < i
    · rw [if_pos e, if_neg (by omega)]; exact (h9 x (by omega)).2.1
    · rw [if_neg e, if_pos (by omega)]; exact (h9 (x + 1) (by omega)).2.1
  · have hx : x < df D - 1 := hx
    rw [si_k (by decide), (hN x).2.2]
    show _ = Int32.ofNat (skp (dV D) i x)
    unfold skp
    by_cases e : x < i
    · rw [if_pos e, if_neg (by omega)]; exact (h9 x (by omega)).2.2
    · rw [if_neg e, if_pos (by omega)]; exact (h9 (x + 1) (by omega)).2.2
  · rw [si_j (by decide), hk.i 1 o 0 13 rfl]; exact h10
theorem r_forget45 {o k : Nat} (hk : k + 1 < 4) : ∀ (m x : Nat) (M : am_M), x ≤ 3 → 4 ≤ m + x → wp (l_X5_forget_45 o (Int32.ofNat k) m (Int32.ofNat x) M) (fun N => ∀ s y, N.1 715 o s y = if s = k ∧ x ≤ y ∧ y < 3 then M.1 715 o (k + 1) y else M.1 715 o s y) := by
  intro m
  induction m with
  | zero => intro x M h1 h2; omega
  | succ m ih =>
    intro x M hx hm
    rw [l_X5_forget_45, i_s, i_cl (x := k) (by omega), i_cl (x := k + 1) (by omega), i_cl (x := x) (by omega)]
    refine wp_le (x := 3) (by omega) (by omega) (fun e => wp_some (fun s y => by rw [if_neg (by omega)])) (fun e => ?_)
    refine wp_inb (by omega) (by omega) (wp_inb (by omega) (by omega) (wp_inb (by omega) (by omega) (wp_inb (by omega) (by omega) (wp_let (wp_let ?_)))))
    rw [i_s]
    refine wp_mono (ih (x + 1) _ (by omega) (by omega)) (fun N hN s y => ?_)
    rw [hN s y, si2, si2]
    by_cases hc : s = k ∧ y = x
    · rw [if_neg (show ¬ (s = k ∧ x + 1 ≤ y ∧ y < 3) from by omega), if_pos hc, if_pos (show s = k ∧ x ≤ y ∧ y < 3 from by omega), hc.2]
    · by_cases hd : s = k ∧ x ≤ y ∧ y < 3
      · rw [if_pos hd, if_pos (show s = k ∧ x + 1 ≤ y ∧ y < 3 from by omega), if_neg (show ¬ (k + 1 = k ∧ y = x) from by omega)]
      · rw [if_neg hd, if_neg (show ¬ (s = k ∧ x + 1 ≤ y ∧ y < 3) from by omega), if_neg hc]
theorem r_forget35 {o F : Nat} (hF : F < 4) : ∀ (m j : Nat) (M : am_M), j ≤ F → F + 1 ≤ m + j → M.1 5 o 0 14 = Int32.ofNat F → wp (l_X5_forget_35 o m (Int32.ofNat j) M) (fun N => ∀ s y, y < 3 → N.1 715 o s y = if j ≤ s ∧ s < F then M.1 715 o (s + 1) y else M.1 715 o s y) := by
  intro m
  induction m with
  | zero => intro j M h1 h2; omega
  | succ m ih =>
    intro j M hj hm h14
    rw [l_X5_forget_35, h14]
    refine wp_le (by omega) (by omega) (fun e => wp_some (fun s y _ => by rw [if_neg (by omega)])) (fun e => ?_)
    refine wp_call (wp_km (r_forget45 (k := j) (by omega) 1000 0 M (by omega) (by omega)) (fr_l_X5_forget_45 _ _ _)) (fun N hN => wp_let ?_)
    obtain ⟨hN, hk⟩ := hN
    rw [i_s]
    refine wp_mono (ih (j + 1) N (by omega) (by omega) ((hk.i _ _ _ _ rfl).trans h14)) (fun N' hN' s y hy => ?_)
    rw [hN' s y hy, hN s y, hN (s + 1) y]
    by_cases hs : s = j
    · rw [if_neg (show ¬ (j + 1 ≤ s ∧ s < F) from by omega), if_pos (show s = j ∧ 0 ≤ y ∧ y < 3 from by omega), if_pos (show j ≤ s ∧ s < F from by omega), hs]
    · by_cases hd : j ≤ s ∧ s < F
      · rw [if_pos (show j + 1 ≤ s ∧ s < F from by omega), if_neg (show ¬ (s + 1 = j ∧ 0 ≤ y ∧ y < 3) from by omega), if_pos hd]
      · rw [if_neg (show ¬ (j + 1 ≤ s ∧ s < F) from by omega), if_neg (show ¬ (s = j ∧ 0 ≤ y ∧ y < 3) from by omega), if_neg hd]
theorem k_forget : ok_forget GT := by
  intro tr b M x1 h
  obtain ⟨⟨D, w, hD, hR⟩, _⟩ := id h
  have w9 := w.2.2.2.2.2.2.2.2.1
  have h8 := hD.2.2.2.2.2.2.2.1
  by_cases hc : 0 ≤ x1.toInt ∧ x1.toInt ≤ (df D : Int) - 1
  · obtain ⟨i, hi, rfl⟩ := i_nat (m := df D - 1) (x := x1) ⟨hc.1, by omega⟩
    have hid : i < df D := by have := hc.2; rw [i_ti (by omega)] at this; omega
    obtain ⟨y, e4, ⟨y1, y2⟩, k4⟩ := wp_kp (c_dropFact (i := i) w hD hid) fr_f_X1_dropFact
    have hR4 : RF y.2 0 D := hR.ag k4 rfl
    obtain ⟨q1, q2, q3, q4, q5, q6, q7⟩ := id hR4
    obtain ⟨N5, e5, r5, k5⟩ := wp_km (r_forget35 (o := 0) (F := df D - 1) (by omega) 1000 i (am_si y.2 5 0 0 14 (Int32.ofNat (df D - 1))) (by omega) (by omega) (by rw [am_si_self])) (fr_l_X5_forget_35 _ _ _)
    have k5' : keeps [(5, some 0, some 14), (715, some 0, none)] y.2 N5 := keeps.trans ((keeps.rf _ y.2).si rfl) (k5.mono rfl)
    have e14 : N5.1 5 0 0 14 = Int32.ofNat (df D - 1) := by rw [k5.i 5 0 0 14 rfl, am_si_self]
    refine ⟨(Int32.ofNat (df D - 1), y.2), (Int32.ofNat (df D - 1), N5), wp_is ?_, wp_is ?_, rfl, gt_d h k4 k5' (w.drop hid) y2 ⟨?_, fun x hx => ⟨?_, ?_, ?_⟩, ?_, fun x hx => ?_, e14, fun x hx => ⟨?_, ?_, ?_⟩, ?_⟩ rfl rfl rfl⟩
    · unfold f_X4_forget
      rw [h8]
      exact wp_be (f_w M _ (i_nm1 (by omega))) (wp_neg (bz_dn hc) (wp_be e4 (wp_some (by rw [← y1]))))
    · unfold f_X5_forget
      rw [q5]
      refine wp_be (f_i _ _ (l := 0) (by decide) (l_nm1 (by omega))) (wp_neg (bz_dn hc) (wp_let ?_))
      rw [show Int32.ofNat (df D) - 1 = Int32.ofNat (df D - 1) from by rw [show (1 : Int32) = Int32.ofNat 1 from rfl, i_sub (by omega)]]
      exact wp_be e5 (wp_some (by rw [e14]))
    · exact (k5'.i _ _ _ _ rfl).trans q1
    · exact (k5'.i _ _ _ _ rfl).trans (q2 x hx).1
    · exact (k5'.i _ _ _ _ rfl).trans (q2 x hx).2.1
    · exact (k5'.i _ _ _ _ rfl).trans (q2 x hx).2.2
    · exact (k5'.i _ _ _ _ rfl).trans q3
    · exact (k5'.i _ _ _ _ rfl).trans (q4 x hx)
    · have hx : x < df D - 1 := hx
      rw [r5 x 0 (by omega), si_k (by decide), si_k (by decide)]
      show _ = Int32.ofNat (skp (dK D) i x)
      unfold skp
      by_cases e : x < i
      · rw [if_pos e, if_neg (by omega)]; exact (q6 x (by omega)).1
      · rw [if_neg e, if_pos (by omega)]; exact (q6 (x + 1) (by omega)).1
    · have hx : x < df D - 1 := hx
      rw [r5 x 1 (by omega), si_k (by decide), si_k (by decide)]
      show _ = Int32.ofNat (skp (dT D) i x)
      unfold skp
      by_cases e : x < i
      · rw [if_pos e, if_neg (by omega)]; exact (q6 x (by omega)).2.1
      · rw [if_neg e, if_pos (by omega)]; exact (q6 (x + 1) (by omega)).2.1
    · have hx : x < df D - 1 := hx
      rw [r5 x 2 (by omega), si_k (by decide), si_k (by decide)]
      show _ = Int32.ofNat (skp (dV D) i x)
      unfold skp
      by_cases e : x < i
      · rw [if_pos e, if_neg (by omega)]; exact (q6 x (by omega)).2.2
      · rw [if_neg e, if_pos (by omega)]; exact (q6 (x + 1) (by omega)).2.2
    · exact (k5'.i _ _ _ _ rfl).trans q7
  · refine gt_r1 (g := fun N => f_X5_forget N 0 x1) (v := (-2 : Int32)) (w := 2) (by omega) h (wp_is ?_) (wp_is ?_)
    · unfold f_X4_forget
      rw [h8]
      exact wp_be (f_w M _ (i_nm1 (by omega))) (wp_pos (bz_n hc) (wp_be (x4_ref2 M) (wp_some rfl)))
    · unfold f_X5_forget
      rw [(hR.ag (ref4_k M 2) rfl).2.2.2.2.1]
      exact wp_be (f_i _ _ (l := 0) (by decide) (l_nm1 (by omega))) (wp_pos (bz_n hc) (wp_be (x5_ref2 _) (wp_some rfl)))
/-! swap -/
theorem k_swap : ok_swap GT := by
  intro tr b M x1 x2 h
  obtain ⟨⟨D, w, hD, hR⟩, _⟩ := id h
  have w1 := w.1
  have w6 := w.2.2.2.2.2.1
  have w5 := w.2.2.2.2.1
  have h1 := hD.1
  have h5 := hD.2.2.2.2.1
  by_cases hc : (0 ≤ x1.toInt ∧ x1.toInt ≤ (dh D : Int) - 1) ∧ (0 ≤ x2.toInt ∧ x2.toInt ≤ (dh D : Int) - 1)
  · obtain ⟨c1, c2⟩ := hc
    obtain ⟨i, hi, rfl⟩ := i_nat (m := dh D - 1) (x := x1) ⟨c1.1, by omega⟩
    obtain ⟨j, hj, rfl⟩ := i_nat (m := dh D - 1) (x := x2) ⟨c2.1, by omega⟩
    have hid : i < dh D := by have := c1.2; rw [i_ti (by omega)] at this; omega
    have hjd : j < dh D := by have := c2.2; rw [i_ti (by omega)] at this; omega
    by_cases hr : dr D = 0
    · obtain ⟨N4, e4, y2, k4⟩ := wp_km (c_exchange (i := i) (j := j) w hD hid hjd) fr_f_X1_exchange
      obtain ⟨N5, e5, r5, k5⟩ := wp_km (r_change (i := i) (j := j) w1 (hR.ag k4 rfl) hid hjd) fr_f_X5_change
      refine ⟨(if i = j then 0 else 1, N4), (if i = j then 0 else 1, N5), wp_is ?_, wp_is ?_, rfl, gt_d h k4 k5 (w.swap hid hjd hr) y2 r5 rfl rfl rfl⟩
      · unfold f_X4_swap
        rw [h1, h5, hr]
        exact wp_be (f_w M _ (i_nm1 (by omega))) (wp_neg (bz_dn c1) (wp_be (f_w M _ (i_nm1 (by omega))) (wp_neg (bz_dn c2) (wp_pos (by decide) (wp_be e4 (wp_ieq (by omega) (by omega) (fun e => wp_some (by rw [if_pos e])) (fun e => wp_some (by rw [if_neg e]))))))))
      · unfold f_X5_swap
        rw [(hR.ag k4 rfl).1, (hR.ag k4 rfl).2.2.1, hr]
        exact wp_be (f_i _ _ (l := 0) (by decide) (l_nm1 (by omega))) (wp_neg (bz_dn c1) (wp_be (f_i _ _ (l := 0) (by decide) (l_nm1 (by omega))) (wp_neg (bz_dn c2) (wp_pos (by decide) (wp_be e5 (wp_ieq (by omega) (by omega) (fun e => wp_some (by rw [if_pos e])) (fun e => wp_some (by rw [if_neg e]))))))))
    · refine gt_r1 (g := fun N => f_X5_swap N 0 (Int32.ofNat i) (Int32.ofNat j)) (v := (-5 : Int32)) (w := 5) (by omega) h (wp_is ?_) (wp_is ?_)
      · unfold f_X4_swap
        rw [h1, h5]
        exact wp_be (f_w M _ (i_nm1 (by omega))) (wp_neg (bz_dn c1) (wp_be (f_w M _ (i_nm1 (by omega))) (wp_neg (bz_dn c2) (wp_le (y := 0) (by omega) (by omega) (fun e => absurd e (by omega)) (fun _ => wp_be (x4_ref5 M) (wp_some rfl))))))
      · unfold f_X5_swap
        rw [(hR.ag (ref4_k M 5) rfl).1, (hR.ag (ref4_k M 5) rfl).2.2.1]
        exact wp_be (f_i _ _ (l := 0) (by decide) (l_nm1 (by omega))) (wp_neg (bz_dn c1) (wp_be (f_i _ _ (l := 0) (by decide) (l_nm1 (by omega))) (wp_neg (bz_dn c2) (wp_le (y := 0) (by omega) (by omega) (fun e => absurd e (by omega)) (fun _ => wp_be (x5_ref5 _) (wp_some rfl))))))
  · refine gt_r1 (g := fun N => f_X5_swap N 0 x1 x2) (v := (-2 : Int32)) (w := 2) (by omega) h (wp_is ?_) (wp_is ?_)
    · unfold f_X4_swap
      rw [h1]
      refine wp_be (f_w M _ (i_nm1 (by omega))) (wp_bz (fun _ => wp_be (x4_ref2 M) (wp_some rfl)) (fun e1 => wp_be (f_w M _ (i_nm1 (by omega))) (wp_bz (fun _ => wp_be (x4_ref2 M) (wp_some rfl)) (fun e2 => ?_))))
      rw [decide_eq_true_eq] at e1 e2
      exact absurd ⟨e1, e2⟩ hc
    · unfold f_X5_swap
      rw [(hR.ag (ref4_k M 2) rfl).1]
      refine wp_be (f_i _ _ (l := 0) (by decide) (l_nm1 (by omega))) (wp_bz (fun _ => wp_be (x5_ref2 _) (wp_some rfl)) (fun e1 => wp_be (f_i _ _ (l := 0) (by decide) (l_nm1 (by omega))) (wp_bz (fun _ => wp_be (x5_ref2 _) (wp_some rfl)) (fun e2 => ?_))))
      rw [decide_eq_true_eq] at e1 e2
      exact absurd ⟨e1, e2⟩ hc
