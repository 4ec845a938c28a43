/-! images -/
theorem ri_e' {M : am_M} {k o i j : Nat} {f : Nat → Int32} : (am_ri M k o i f).1 k o i j = f j := ri_e M k o i j f
theorem cpy_0 {f g : Nat → Int32} {n x : Nat} (h : x < n) : va_cpy f g 0 0 n x = f x := by
  unfold va_cpy
  rw [if_pos (by omega), Nat.zero_add, Nat.sub_zero]
theorem c_takeOver {M : am_M} {o p : Nat} {D : dd} (w : WF D) (hop : p ≠ o) (h : DR M p D) : wp (f_X1_takeOver M o p) (fun N => DR N o D) := by
  obtain ⟨h1, h2, h3, h4, h5, h6, h7, h8, h9, h10⟩ := id h
  obtain ⟨w1, w2, w3, w4, w5, w6, w7, w8, w9, w10⟩ := id w
  unfold f_X1_takeOver
  rw [show (0 : Int32).toNatClampNeg = 0 from rfl, show (4 : Int32).toNatClampNeg = 4 from rfl, show (24 : Int32).toNatClampNeg = 24 from rfl]
  have q4 : (¬ (0 : Int32) < 0 ∧ ¬ (0 : Int32) < 0 ∧ ¬ (4 : Int32) < 0 ∧ 0 + 4 ≤ 4 ∧ 0 + 4 ≤ 4) := by decide
  have q24 : (¬ (0 : Int32) < 0 ∧ ¬ (0 : Int32) < 0 ∧ ¬ (24 : Int32) < 0 ∧ 0 + 24 ≤ 24 ∧ 0 + 24 ≤ 24) := by decide
  refine wp_let (wp_let (wp_let (wp_let (wp_let (wp_let (wp_let (wp_pos q4 (wp_let (wp_pos q4 (wp_let (wp_pos q4 (wp_let (wp_pos q24 (wp_let (wp_pos q4 (wp_let (wp_pos q4 (wp_let (wp_pos q4 (wp_let (wp_some ?_)))))))))))))))))))))
  refine ⟨?_, ?_, ?_, fun i hi => ⟨?_, ?_, ?_⟩, ?_, ?_, fun i hi => ?_, ?_, fun i hi => ⟨?_, ?_, ?_⟩, ?_⟩
  · rw [ri_k (by decide), ri_k (by decide), ri_k (by decide), ri_k (by decide), ri_k (by decide), ri_k (by decide), ri_k (by decide), si_j (by decide), si_j (by decide), si_j (by decide), si_j (by decide), si_j (by decide), si_j (by decide), am_si_self]
    exact h1
  · rw [ri_k (by decide), ri_k (by decide), ri_k (by decide), ri_k (by decide), ri_k (by decide), ri_k (by decide), ri_k (by decide), si_j (by decide), si_j (by decide), si_j (by decide), si_j (by decide), si_j (by decide), am_si_self, si_o hop]
    exact h2
  · rw [ri_k (by decide), ri_k (by decide), ri_k (by decide), ri_k (by decide), ri_k (by decide), ri_k (by decide), ri_k (by decide), si_j (by decide), si_j (by decide), si_j (by decide), si_j (by decide), am_si_self, si_o hop, si_o hop]
    exact h3
  · rw [ri_k (by decide), ri_k (by decide), ri_k (by decide), ri_k (by decide), ri_k (by decide), ri_k (by decide), ri_e', cpy_0 (by omega), si_k (by decide), si_k (by decide), si_k (by decide), si_k (by decide), si_k (by decide), si_k (by decide), si_k (by decide)]
    exact (h4 i hi).1
  · rw [ri_k (by decide), ri_k (by decide), ri_k (by decide), ri_k (by decide), ri_k (by decide), ri_e', cpy_0 (by omega), ri_k (by decide), si_k (by decide), si_k (by decide), si_k (by decide), si_k (by decide), si_k (by decide), si_k (by decide), si_k (by decide)]
    exact (h4 i hi).2.1
  · rw [ri_k (by decide), ri_k (by decide), ri_k (by decide), ri_k (by decide), ri_e', cpy_0 (by omega), ri_k (by decide), ri_k (by decide), si_k (by decide), si_k (by decide), si_k (by decide), si_k (by decide), si_k (by decide), si_k (by decide), si_k (by decide)]
    exact (h4 i hi).2.2
  · rw [ri_k (by decide), ri_k (by decide), ri_k (by decide), ri_k (by decide), ri_k (by decide), ri_k (by decide), ri_k (by decide), si_j (by decide), si_j (by decide), si_j (by decide), am_si_self, si_o hop, si_o hop, si_o hop]
    exact h5
  · rw [ri_k (by decide), ri_k (by decide), ri_k (by decide), ri_k (by decide), ri_k (by decide), ri_k (by decide), ri_k (by decide), si_j (by decide), si_j (by decide), am_si_self, si_o hop, si_o hop, si_o hop, si_o hop]
    exact h6
  · rw [ri_k (by decide), ri_k (by decide), ri_k (by decide), ri_e', cpy_0 (by omega), ri_k (by decide), ri_k (by decide), ri_k (by decide), si_k (by decide), si_k (by decide), si_k (by decide), si_k (by decide), si_k (by decide), si_k (by decide), si_k (by decide)]
    exact h7 i hi
  · rw [ri_k (by decide), ri_k (by decide), ri_k (by decide), ri_k (by decide), ri_k (by decide), ri_k (by decide), ri_k (by decide), si_j (by decide), am_si_self, si_o hop, si_o hop, si_o hop, si_o hop, si_o hop]
    exact h8
  · rw [ri_k (by decide), ri_k (by decide), ri_e', cpy_0 (by omega), ri_k (by decide), ri_k (by decide), ri_k (by decide), ri_k (by decide), si_k (by decide), si_k (by decide), si_k (by decide), si_k (by decide), si_k (by decide), si_k (by decide), si_k (by decide)]
    exact (h9 i hi).1
  · rw [ri_k (by decide), ri_e', cpy_0 (by omega), ri_k (by decide), ri_k (by decide), ri_k (by decide), ri_k (by decide), ri_k (by decide), si_k (by decide), si_k (by decide), si_k (by decide), si_k (by decide), si_k (by decide), si_k (by decide), si_k (by decide)]
    exact (h9 i hi).2.1
  · rw [ri_e', cpy_0 (by omega), ri_k (by decide), ri_k (by decide), ri_k (by decide), ri_k (by decide), ri_k (by decide), ri_k (by decide), si_k (by decide), si_k (by decide), si_k (by decide), si_k (by decide), si_k (by decide), si_k (by decide), si_k (by decide)]
    exact (h9 i hi).2.2
  · rw [ri_k (by decide), ri_k (by decide), ri_k (by decide), ri_k (by decide), ri_k (by decide), ri_k (by decide), ri_k (by decide), am_si_self, si_o hop, si_o hop, si_o hop, si_o hop, si_o hop, si_o hop]
    exact h10
theorem r_over2 {k0 p0 q0 k1 p1 q1 n : Nat} (hn : n ≤ 24) (hp : p0 ≠ p1) : ∀ (m j : Nat) (M : am_M), j ≤ n → n + 1 ≤ m + j → wp (l_X5_over_2 k0 p0 q0 n k1 p1 q1 n m (Int32.ofNat j) M) (fun N => ∀ q i, N.1 k1 p1 q i = if q = q1 ∧ j ≤ i ∧ i < n then M.1 k0 p0 q0 i else M.1 k1 p1 q i) := by
  intro m
  induction m with
  | zero => intro j M h1 h2; omega
  | succ m ih =>
    intro j M hj hm
    rw [l_X5_over_2]
    refine wp_le (by omega) (by omega) (fun e => wp_some (fun q i => by rw [if_neg (by omega)])) (fun e => ?_)
    refine wp_inb (by omega) (by omega) (wp_inb (by omega) (by omega) (wp_let (wp_let ?_)))
    rw [i_cl (by omega), i_s]
    refine wp_mono (ih (j + 1) _ (by omega) (by omega)) (fun N hN q i => ?_)
    rw [hN q i, si2, si_o hp]
    by_cases hc : q = q1 ∧ i = j
    · rw [if_neg (show ¬ (q = q1 ∧ j + 1 ≤ i ∧ i < n) from by omega), if_pos hc, if_pos (show q = q1 ∧ j ≤ i ∧ i < n from by omega), hc.2]
    · by_cases hd : q = q1 ∧ j ≤ i ∧ i < n
      · rw [if_pos hd, if_pos (show q = q1 ∧ j + 1 ≤ i ∧ i < n from by omega)]
      · rw [if_neg hd, if_neg (show ¬ (q = q1 ∧ j + 1 ≤ i ∧ i < n) from by omega), if_neg hc]
theorem r_over {M : am_M} {k0 p0 q0 k1 p1 q1 n : Nat} (hn : n ≤ 24) (hp : p0 ≠ p1) : wp (f_X5_over M k0 p0 q0 n k1 p1 q1 n) (fun N => (∀ q i, N.1 k1 p1 q i = if q = q1 ∧ i < n then M.1 k0 p0 q0 i else M.1 k1 p1 q i) ∧ keeps [(k1, some p1, none)] M N) := by
  refine wp_km ?_ fr_f_X5_over
  unfold f_X5_over
  refine wp_call (r_over2 hn hp 1000 0 M (by omega) (by omega)) (fun N hN => wp_some (fun q i => ?_))
  rw [hN q i]
  by_cases hc : q = q1 ∧ i < n
  · rw [if_pos hc, if_pos (by omega)]
  · rw [if_neg hc, if_neg (by omega)]
theorem r_from51 {o p : Nat} (hop : p ≠ o) : ∀ (m j : Nat) (M : am_M), j ≤ 4 → 5 ≤ m + j → wp (l_X5_takeFrom_51 o p m (Int32.ofNat j) M) (fun N => ∀ q i, i < 3 → N.1 715 o q i = if j ≤ q ∧ q < 4 then M.1 715 p q i else M.1 715 o q i) := by
  intro m
  induction m with
  | zero => intro j M h1 h2; omega
  | succ m ih =>
    intro j M hj hm
    rw [l_X5_takeFrom_51, i_cl (x := j) (by omega)]
    refine wp_le (x := 4) (by omega) (by omega) (fun e => wp_some (fun q i _ => by rw [if_neg (by omega)])) (fun e => ?_)
    refine wp_inb (by omega) (by omega) (wp_inb (by omega) (by omega) (wp_call (r_over (by omega) hop) (fun N hN => wp_let ?_)))
    obtain ⟨hN, hk⟩ := hN
    rw [i_s]
    refine wp_mono (ih (j + 1) N (by omega) (by omega)) (fun N' hN' q i hi => ?_)
    rw [hN' q i hi, hN q i, hk.i 715 p q i (kpS_o hop.symm)]
    by_cases hq : q = j
    · rw [if_neg (show ¬ (j + 1 ≤ q ∧ q < 4) from by omega), if_pos (show q = j ∧ i < 3 from by omega), if_pos (show j ≤ q ∧ q < 4 from by omega), hq]
    · rw [if_neg (show ¬ (q = j ∧ i < 3) from by omega)]
      by_cases hd : j ≤ q ∧ q < 4
      · rw [if_pos hd, if_pos (show j + 1 ≤ q ∧ q < 4 from by omega)]
      · rw [if_neg hd, if_neg (show ¬ (j + 1 ≤ q ∧ q < 4) from by omega)]
theorem r_takeFrom {M : am_M} {o p : Nat} {D : dd} (w : WF D) (hop : p ≠ o) (h : RF M p D) : wp (f_X5_takeFrom M o p) (fun N => RF N o D) := by
  obtain ⟨q1, q2, q3, q4, q5, q6, q7⟩ := id h
  obtain ⟨w1, w2, w3, w4, w5, w6, w7, w8, w9, w10⟩ := id w
  unfold f_X5_takeFrom
  refine wp_let (wp_call (r_over (by omega) hop) (fun N1 a1 => wp_call (r_over (by omega) hop) (fun N2 a2 => wp_call (r_over (by omega) hop) (fun N3 a3 => wp_let (wp_call (wp_km (r_from51 hop 1000 0 _ (by omega) (by omega)) (fr_l_X5_takeFrom_51 _ _ _)) (fun N4 a4 => wp_let (wp_call (r_over (by omega) hop) (fun N5 a5 => wp_let (wp_some ?_))))))))) 
  obtain ⟨a1, k1⟩ := a1
  obtain ⟨a2, k2⟩ := a2
  obtain ⟨a3, k3⟩ := a3
  obtain ⟨a4, k4⟩ := a4
  obtain ⟨a5, k5⟩ := a5
  refine ⟨?_, fun i hi => ⟨?_, ?_, ?_⟩, ?_, fun i hi => ?_, ?_, fun i hi => ⟨?_, ?_, ?_⟩, ?_⟩
  · rw [si_j (by decide), k5.i 5 o 0 10 rfl, si_j (by decide), k4.i 5 o 0 10 rfl, si_j (by decide), k3.i 5 o 0 10 rfl, k2.i 5 o 0 10 rfl, k1.i 5 o 0 10 rfl, am_si_self]
    exact q1
  · rw [si_k (by decide), k5.i 611 o 0 i rfl, si_k (by decide), k4.i 611 o 0 i rfl, si_k (by decide), k3.i 611 o 0 i rfl, k2.i 611 o 0 i rfl, a1 0 i, if_pos ⟨rfl, by omega⟩, si_k (by decide)]
    exact (q2 i hi).1
  · rw [si_k (by decide), k5.i 612 o 0 i rfl, si_k (by decide), k4.i 612 o 0 i rfl, si_k (by decide), k3.i 612 o 0 i rfl, a2 0 i, if_pos ⟨rfl, by omega⟩, k1.i 612 p 0 i rfl, si_k (by decide)]
    exact (q2 i hi).2.1
  · rw [si_k (by decide), k5.i 613 o 0 i rfl, si_k (by decide), k4.i 613 o 0 i rfl, si_k (by decide), a3 0 i, if_pos ⟨rfl, by omega⟩, k2.i 613 p 0 i rfl, k1.i 613 p 0 i rfl, si_k (by decide)]
    exact (q2 i hi).2.2
  · rw [si_j (by decide), k5.i 5 o 0 16 rfl, am_si_self, k4.i 5 p 0 16 rfl, si_o hop, k3.i 5 p 0 16 rfl, k2.i 5 p 0 16 rfl, k1.i 5 p 0 16 rfl, si_o hop]
    exact q3
  · rw [si_k (by decide), a5 0 i, if_pos ⟨rfl, by omega⟩, si_k (by decide), k4.i 617 p 0 i rfl, si_k (by decide), k3.i 617 p 0 i rfl, k2.i 617 p 0 i rfl, k1.i 617 p 0 i rfl, si_k (by decide)]
    exact q4 i hi
  · rw [si_j (by decide), k5.i 5 o 0 14 rfl, si_j (by decide), k4.i 5 o 0 14 rfl, am_si_self, k3.i 5 p 0 14 rfl, k2.i 5 p 0 14 rfl, k1.i 5 p 0 14 rfl, si_o hop]
    exact q5
  · rw [si_k (by decide), k5.i 715 o i 0 rfl, si_k (by decide), a4 i 0 (by omega), if_pos (by omega), si_k (by decide), k3.i 715 p i 0 rfl, k2.i 715 p i 0 rfl, k1.i 715 p i 0 rfl, si_k (by decide)]
    exact (q6 i hi).1
  · rw [si_k (by decide), k5.i 715 o i 1 rfl, si_k (by decide), a4 i 1 (by omega), if_pos (by omega), si_k (by decide), k3.i 715 p i 1 rfl, k2.i 715 p i 1 rfl, k1.i 715 p i 1 rfl, si_k (by decide)]
    exact (q6 i hi).2.1
  · rw [si_k (by decide), k5.i 715 o i 2 rfl, si_k (by decide), a4 i 2 (by omega), if_pos (by omega), si_k (by decide), k3.i 715 p i 2 rfl, k2.i 715 p i 2 rfl, k1.i 715 p i 2 rfl, si_k (by decide)]
    exact (q6 i hi).2.2
  · rw [am_si_self, k5.i 5 p 0 18 rfl, si_o hop, k4.i 5 p 0 18 rfl, si_o hop, k3.i 5 p 0 18 rfl, k2.i 5 p 0 18 rfl, k1.i 5 p 0 18 rfl, si_o hop]
    exact q7
def rstS (d : Nat) : kS := (5, some d, none) :: (List.range 200).map (fun k => (600 + k, some d, none))
theorem rst_k (M : am_M) (d : Nat) : keeps (rstS d) M (am_rst M d) := by
  intro k o i j hk
  have hn : ¬ (am_isM k = true ∧ o = d) := fun hz => by
    obtain ⟨h1, rfl⟩ := hz
    have : kpS (rstS o) k o j = true := by
      unfold am_isM at h1
      simp only [Bool.or_eq_true, Bool.and_eq_true] at h1
      rcases h1 with h1 | ⟨h1, h2⟩
      · rw [kp_beq] at h1
        rw [h1]
        exact kpS_h0
      · have h1 : 600 ≤ k := Nat.le_of_ble_eq_true h1
        have h2 : k < 800 := Nat.le_of_ble_eq_true h2
        refine List.any_eq_true.mpr ⟨(k, some o, none), List.mem_cons_of_mem _ (List.mem_map.mpr ⟨k - 600, List.mem_range.mpr (by omega), by rw [show 600 + (k - 600) = k from by omega]⟩), ?_⟩
        show (Nat.beq k k && Nat.beq o o && true) = true
        rw [Nat.beq_refl, Nat.beq_refl]
        rfl
    rw [this] at hk
    cases hk
  exact ⟨if_neg hn, if_neg hn⟩
theorem rst_2 : dj (rstS 2) (tD 0) = true ∧ dj (rstS 2) (tD 1) = true ∧ dj (rstS 2) (tR5 0) = true ∧ dj (rstS 2) tSh = true ∧ dj (rstS 2) tTp = true ∧ dj (rstS 2) tRf = true ∧ dj (rstS 2) tK4 = true := by decide +kernel
theorem k_image : ok_image GT := by
  intro tr b M h
  obtain ⟨⟨D, w, hD, hR⟩, hS, hT, hRu, hK⟩ := id h
  obtain ⟨N1, e1, d1, k1⟩ := wp_km (c_takeOver (o := 1) w (by decide) hD) fr_f_X1_takeOver
  have k4 : keeps [(1, some 1, none), (203, some 1, none), (204, some 1, none), (205, some 1, none), (208, some 1, none), (210, some 1, none), (211, some 1, none), (212, some 1, none), (4, some 0, some 8)] M (am_si N1 4 0 0 8 1) := (k1.mono rfl).si rfl
  have d1' : DR (am_si N1 4 0 0 8 1) 1 D := d1.ag ((keeps.rf [(4, some 0, some 8)] N1).si rfl) rfl
  have hc : ∀ N : am_M, DR N 0 D → DR N 1 D → RF N 0 D → gtS N → gtT N → gtR 0 N → N.1 4 0 0 8 = 1 → ∃ z, f_X5_takeFrom N 2 0 = some z ∧ GT tr true z := by
    intro N n1 n2 n3 n4 n5 n6 n7
    obtain ⟨z, e5, r5, k5⟩ := wp_km (r_takeFrom (o := 2) w (by decide) n3) fr_f_X5_takeFrom
    exact ⟨z, e5, ⟨D, w, n1.ag k5 rfl, n3.ag k5 rfl⟩, n4.ag k5 rfl, n5.ag k5 rfl, n6.ag k5 rfl, (k5.i 4 0 0 8 rfl).trans n7, fun _ => ⟨D, w, n2.ag k5 rfl, r5⟩⟩
  have e48 : (am_si N1 4 0 0 8 1).1 4 0 0 8 = 1 := am_si_self _ _ _ _ _ _
  obtain ⟨r1, r2, r3, r4, r5, r6, r7⟩ := rst_2
  have kr := rst_k (am_si N1 4 0 0 8 1) 2
  cases b with
  | true =>
    obtain ⟨z, e5, g⟩ := hc (am_si N1 4 0 0 8 1) (hD.ag k4 rfl) d1' (hR.ag k4 rfl) (hS.ag k4 rfl) (hT.ag k4 rfl) (hRu.ag k4 rfl) e48
    refine ⟨(1, am_si N1 4 0 0 8 1), z, wp_is ?_, e5, rfl, g⟩
    unfold f_X4_image
    exact wp_be e1 (wp_let (wp_some rfl))
  | false =>
    obtain ⟨z, e5, g⟩ := hc (am_rst (am_si N1 4 0 0 8 1) 2) ((hD.ag k4 rfl).ag kr r1) (d1'.ag kr r2) ((hR.ag k4 rfl).ag kr r3) ((hS.ag k4 rfl).ag kr r4) ((hT.ag k4 rfl).ag kr r5) ((hRu.ag k4 rfl).ag kr r6) ((((kr.ag r7) 4 0 0 8 rfl).1).trans e48)
    refine ⟨(1, am_si N1 4 0 0 8 1), z, wp_is ?_, e5, rfl, g⟩
    unfold f_X4_image
    exact wp_be e1 (wp_let (wp_some rfl))
theorem k_back : ok_back GT := by
  intro tr b M h
  obtain ⟨_, _, _, _, hK⟩ := id h
  cases b with
  | false =>
    refine gt_r0 (g := fun N => f_X5_back false N) (v := (-5 : Int32)) (w := 5) (by omega) h (wp_is ?_) (fun N => ?_)
    · unfold f_X4_back
      rw [hK.1]
      exact wp_pos rfl (wp_be (x4_ref5 M) (wp_some rfl))
    · exact x5_ref5 N
  | true =>
    obtain ⟨D, w, d, r⟩ := hK.2 rfl
    obtain ⟨N4, e4, d4, k4⟩ := wp_km (c_takeOver (o := 0) w (by decide) d) fr_f_X1_takeOver
    obtain ⟨N5, e5, r5, k5⟩ := wp_km (r_takeFrom (o := 0) w (by decide) (r.ag k4 rfl)) fr_f_X5_takeFrom
    refine ⟨(1, N4), (1, N5), wp_is ?_, wp_is ?_, rfl, gt_d h k4 k5 w d4 r5 rfl rfl rfl⟩
    · unfold f_X4_back
      rw [hK.1]
      exact wp_neg (by decide) (wp_be e4 (wp_some rfl))
    · unfold f_X5_back
      exact wp_pos rfl (wp_be e5 (wp_some rfl))
