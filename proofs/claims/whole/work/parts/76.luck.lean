/-! told, luck, unlike -/
def tok (D : dd) (sz : Nat) (c : Nat → Nat) : Prop := sz = dn D ∧ fw (PF D) (dn D) c sz 1000 0 0 = none
theorem tok_c {D : dd} {sz : Nat} {c : Nat → Nat} {M : am_M} {s : Nat} (h : tok D sz c) (h3 : sR3 M s sz c) : ∀ i, i < sz → c i ≤ 1 := fun i hi => by
  have h1 := fw_no h.2 (by have := h3.1; omega) i (by omega) hi
  have h2 : c i ≤ 2 := by rw [← (h3.2.2.2 i hi).1]; exact vc_le _
  omega
theorem c_agT {M : am_M} {s sz : Nat} {c : Nat → Nat} {D : dd} (hs8 : s < 8) (w : WF D) (hD : DR M 0 D) (h3 : sR3 M s sz c) (ea : f_X4_againstRows M (Int32.ofNat s) (Int32.ofNat s) = some 0) : wp (f_X4_againstTold M (Int32.ofNat s)) (fun y => ((tok D sz c ∧ y.1 = 0) ∨ (¬ tok D sz c ∧ y.1 = -5)) ∧ keeps [(0, some 0, some 0), (0, some 0, some 1), (103, some 0, none)] M y.2) := by
  have hn := w.2.2.2.2.1
  have hsz := h3.1
  unfold f_X4_againstTold
  rw [i_cl (x := s) (by omega)]
  refine wp_be ea (wp_pos rfl (wp_call (wp_km (c_layFit w hD) fr_f_X0_layFitting) (fun N hN => wp_inb hs8 (by omega) ?_)))
  have hN3 := h3.ag hN.2 rfl
  rw [hN3.2.1, (hD.ag hN.2 rfl).2.1]
  refine wp_ieq (by omega) (by omega) (fun e => wp_inb hs8 (by omega) (wp_be (c_wrong hn hN.1 hN3) ?_)) (fun e => wp_some ⟨Or.inr ⟨fun z => e z.1, rfl⟩, hN.2⟩)
  cases hf : fw (PF D) (dn D) c sz 1000 0 0 with
  | none => exact wp_pos rfl (wp_some ⟨Or.inl ⟨⟨e, hf⟩, rfl⟩, hN.2⟩)
  | some f =>
    have hl := fw_lt hf
    exact wp_neg (enc_1 (by omega)) (wp_some ⟨Or.inr ⟨fun z => (nomatch (z.2.symm.trans hf)), rfl⟩, hN.2⟩)
theorem r_whole {M : am_M} {s sz : Nat} {c : Nat → Nat} {D : dd} (hs8 : s < 8) (w : WF D) (hR : RF M 0 D) (h3 : sR3 M s sz c) (h6 : M.1 600 0 0 s = 1) : wp (f_X5_noWhole M 0 (Int32.ofNat s)) (fun y => (tok D sz c ∧ y.1 = 0 ∧ RM y.2 0 (dn D) (PF D) ∧ keeps [(5, some 0, some 29), (728, some 0, none)] M y.2) ∨ (¬ tok D sz c ∧ ∃ N, keeps [(5, some 0, some 29), (728, some 0, none)] M N ∧ y = (-5, ref5 N 5))) := by
  have hn := w.2.2.2.2.1
  have hsz := h3.1
  have en1 := r_noRow (M := M) (c := 1) hs8 h6 (by omega)
  rw [if_neg (by decide), if_neg (by decide)] at en1
  unfold f_X5_noWhole
  rw [i_cl (x := s) (by omega)]
  refine wp_be en1 (wp_let (wp_pos rfl (wp_call (r_room hs8 w hR h3) (fun y hy => ?_))))
  obtain ⟨y1, y2, y3⟩ := hy
  rw [y1, (h3.ag y3 rfl).2.2.1, y2.1]
  cases hf : fw (PF D) (dn D) c sz 1000 0 0 with
  | none =>
    refine wp_pos rfl (wp_inb hs8 (by omega) (wp_ieq (by omega) (by omega) (fun e => wp_some (Or.inl ⟨⟨e, hf⟩, rfl, y2, y3⟩)) (fun e => wp_be (x5_ref5 y.2) (wp_some (Or.inr ⟨fun z => e z.1, y.2, y3, rfl⟩)))))
  | some f =>
    have hl := fw_lt hf
    exact wp_neg (enc_1 (by omega)) (wp_be (x5_ref5 y.2) (wp_some (Or.inr ⟨fun z => (nomatch (z.2.symm.trans hf)), y.2, y3, rfl⟩)))
theorem c_agTn {M : am_M} {x : Int32} {v : Int32} (ea : f_X4_againstRows M x x = some v) (hv : ¬ v = 0) : f_X4_againstTold M x = some (v, M) := by
  unfold f_X4_againstTold
  exact wp_is (wp_be ea (wp_neg hv (wp_some rfl)))
theorem r_wholen {M : am_M} {x : Int32} {v : Int32} {N : am_M} (ea : f_X5_noRow M 0 x = some (v, N)) (hv : ¬ v = 0) : f_X5_noWhole M 0 x = some (v, N) := by
  unfold f_X5_noWhole
  exact wp_is (wp_be ea (wp_let (wp_neg hv (wp_some rfl))))
theorem k_told : ok_told GT := by
  intro tr b M x1 x2 h
  obtain ⟨⟨D, w, hD, hR⟩, _⟩ := id h
  have hn := w.2.2.2.2.1
  by_cases hw : 0 ≤ x2.toInt ∧ x2.toInt ≤ 2
  · obtain ⟨x, hx, rfl⟩ := i_nat (m := 2) hw
    by_cases hc : 0 ≤ x1.toInt ∧ x1.toInt ≤ 7
    · obtain ⟨s, hs, rfl⟩ := i_nat (m := 7) hc
      have hs8 : s < 8 := by omega
      obtain ⟨c, hF, hr, hd⟩ := sF_c (h.2.1 s hs8)
      have ea := c_agR (M := M) hs8 hs8 hF hF
      have c3 : c = 2 ∨ c = 0 ∨ c = 1 := by have := hF.2.1; omega
      have en := r_noRow (M := ref4 M 3) hs8 ((ref4_600 M 3 s).trans hF.1) hF.2.1
      have en' := r_noRow (M := ref4 M 4) hs8 ((ref4_600 M 4 s).trans hF.1) hF.2.1
      rcases c3 with rfl | rfl | rfl
      · rw [if_pos (Or.inl rfl)] at ea
        rw [if_pos rfl] at en
        refine gt_r1 (g := fun N => f_X5_told N 0 (Int32.ofNat s) (Int32.ofNat x)) (v := (-3 : Int32)) (w := 3) (by omega) h (wp_is ?_) (wp_is ?_)
        · unfold f_X4_told
          exact wp_be (f_w M _ (m := 2) (by decide)) (wp_call (wp_neg (bz_dn hw) (wp_be (c_agTn ea (by decide)) (wp_some rfl))) (fun z hz => by subst hz; exact wp_let (wp_neg (show ¬ (-3 : Int32) = 0 from by decide) (wp_be (x4_ref3 M) (wp_some rfl)))))
        · unfold f_X5_told
          exact wp_be (f_i _ _ (l := 0) (m := 2) (by decide) (by decide)) (wp_neg (bz_dn hw) (wp_be (r_wholen en (by decide)) (wp_let (wp_neg (show ¬ (-3 : Int32) = 0 from by decide) (wp_some rfl)))))
      · rw [if_neg (by decide), if_pos (Or.inl rfl)] at ea
        rw [if_neg (by decide), if_pos rfl] at en'
        refine gt_r1 (g := fun N => f_X5_told N 0 (Int32.ofNat s) (Int32.ofNat x)) (v := (-4 : Int32)) (w := 4) (by omega) h (wp_is ?_) (wp_is ?_)
        · unfold f_X4_told
          exact wp_be (f_w M _ (m := 2) (by decide)) (wp_call (wp_neg (bz_dn hw) (wp_be (c_agTn ea (by decide)) (wp_some rfl))) (fun z hz => by subst hz; exact wp_let (wp_neg (show ¬ (-4 : Int32) = 0 from by decide) (wp_be (x4_ref4 M) (wp_some rfl)))))
        · unfold f_X5_told
          exact wp_be (f_i _ _ (l := 0) (m := 2) (by decide) (by decide)) (wp_neg (bz_dn hw) (wp_be (r_wholen en' (by decide)) (wp_let (wp_neg (show ¬ (-4 : Int32) = 0 from by decide) (wp_some rfl)))))
      · rw [if_neg (by decide), if_neg (by decide)] at ea
        obtain ⟨k, sz, hW⟩ := hr rfl
        obtain ⟨cc, h3⟩ := sR3_of hW
        by_cases hk : tok D sz cc
        · have hcc := tok_c hk h3
          have hkn := hk.1
          subst hkn
          refine gt_q (g := fun N => f_X5_told N 0 (Int32.ofNat s) (Int32.ofNat x)) (v := Int32.ofNat (if x = 2 then grt cc (dn D) else if x = 0 then mom cc (dn D) else lvn cc (dn D))) (S4 := [(0, some 0, some 0), (0, some 0, some 1), (103, some 0, none)]) (S5 := [(5, some 0, some 29), (728, some 0, none)]) h ?_ rfl (fun N hkp => ?_) rfl
          · unfold f_X4_told
            rw [i_cl (x := s) (by omega)]
            refine wp_be (f_w M _ (m := 2) (by decide)) (wp_call (Q := fun z => ((tok D (dn D) cc ∧ z.1 = 0) ∨ (¬ tok D (dn D) cc ∧ z.1 = -5)) ∧ keeps [(0, some 0, some 0), (0, some 0, some 1), (103, some 0, none)] M z.2) (wp_neg (bz_dn hw) (wp_call (c_agT hs8 w hD h3 ea) (fun y hy => wp_some hy))) (fun z hz => wp_let ?_))
            rcases hz.1 with ⟨_, e⟩ | ⟨e, _⟩
            · rw [e]
              exact wp_pos rfl (wp_inb hs8 (by omega) (wp_be (c_toldOf (h3.ag hz.2 rfl) hcc hx) (wp_some ⟨rfl, hz.2⟩)))
            · exact absurd hk e
          · unfold f_X5_told
            refine wp_be (f_i _ _ (l := 0) (m := 2) (by decide) (by decide)) (wp_neg (bz_dn hw) (wp_call (r_whole hs8 w (hR.ag hkp rfl) (h3.ag hkp rfl) ((hkp.i 600 0 0 s rfl).trans hF.1)) (fun y hy => wp_let ?_)))
            rcases hy with ⟨_, e, y2, y3⟩ | ⟨e, _⟩
            · rw [e]
              exact wp_pos rfl (wp_be (r_ofTold hs8 hn hx y2.1 ((h3.ag hkp rfl).ag y3 rfl) hcc) (wp_some ⟨rfl, y3⟩))
            · exact absurd hk e
        · refine gt_r (g := fun N => f_X5_told N 0 (Int32.ofNat s) (Int32.ofNat x)) (v := (-5 : Int32)) (w := 5) (S4 := [(0, some 0, some 0), (0, some 0, some 1), (103, some 0, none)]) (S5 := [(5, some 0, some 29), (728, some 0, none)]) (by omega) h ?_ rfl (fun N hkp => ?_) rfl
          · unfold f_X4_told
            refine wp_be (f_w M _ (m := 2) (by decide)) (wp_call (Q := fun z => ((tok D sz cc ∧ z.1 = 0) ∨ (¬ tok D sz cc ∧ z.1 = -5)) ∧ keeps [(0, some 0, some 0), (0, some 0, some 1), (103, some 0, none)] M z.2) (wp_neg (bz_dn hw) (wp_call (c_agT hs8 w hD h3 ea) (fun y hy => wp_some hy))) (fun z hz => wp_let ?_))
            rcases hz.1 with ⟨e, _⟩ | ⟨_, e⟩
            · exact absurd e hk
            · rw [e]
              exact wp_neg (by decide) (wp_be (x4_ref5 _) (wp_some ⟨z.2, hz.2, rfl⟩))
          · have hkp' : keeps [(0, some 0, some 0), (0, some 0, some 1), (103, some 0, none), (507, some 0, none)] M (ref4 N 5) := keeps.trans (hkp.mono rfl) ((ref4_k N 5).mono rfl)
            unfold f_X5_told
            refine wp_be (f_i _ _ (l := 0) (m := 2) (by decide) (by decide)) (wp_neg (bz_dn hw) (wp_call (r_whole hs8 w (hR.ag hkp' rfl) (h3.ag hkp' rfl) ((hkp'.i 600 0 0 s rfl).trans hF.1)) (fun y hy => wp_let ?_)))
            rcases hy with ⟨e, _⟩ | ⟨_, N', kk, rfl⟩
            · exact absurd e hk
            · exact wp_neg (show ¬ (-5 : Int32) = 0 from by decide) (wp_some ⟨N', kk, rfl⟩)
    · refine gt_r0 (g := fun N => f_X5_told N 0 x1 (Int32.ofNat x)) (v := (-2 : Int32)) (w := 2) (by omega) h (wp_is ?_) (fun N => wp_is ?_)
      · unfold f_X4_told
        exact wp_be (f_w M _ (m := 2) (by decide)) (wp_call (wp_neg (bz_dn hw) (wp_be (c_agTn (c_agN (fun z => hc z.1)) (by decide)) (wp_some rfl))) (fun z hz => by subst hz; exact wp_let (wp_neg (show ¬ (-2 : Int32) = 0 from by decide) (wp_be (x4_ref2 M) (wp_some rfl)))))
      · unfold f_X5_told
        exact wp_be (f_i _ _ (l := 0) (m := 2) (by decide) (by decide)) (wp_neg (bz_dn hw) (wp_be (r_wholen (r_noRowN hc) (by decide)) (wp_let (wp_neg (show ¬ (-2 : Int32) = 0 from by decide) (wp_some rfl)))))
  · refine gt_r0 (g := fun N => f_X5_told N 0 x1 x2) (v := (-2 : Int32)) (w := 2) (by omega) h (wp_is ?_) (fun N => wp_is ?_)
    · unfold f_X4_told
      exact wp_be (f_w M _ (m := 2) (by decide)) (wp_call (wp_pos (bz_n hw) (wp_some rfl)) (fun z hz => by subst hz; exact wp_let (wp_neg (show ¬ (-2 : Int32) = 0 from by decide) (wp_be (x4_ref2 M) (wp_some rfl)))))
    · unfold f_X5_told
      exact wp_be (f_i N _ (l := 0) (m := 2) (by decide) (by decide)) (wp_pos (bz_n hw) (wp_be (x5_ref2 N) (wp_some rfl)))
/-! luck -/
def mkA (t a : Nat) : Bool := decide (0 < t) && ah 1 t a
theorem mkA_0 (a : Nat) : mkA 0 a = false := rfl
theorem isMk_A : isMk 0 mkA := fun t a h1 ht ha => wp_mono (isMk_0 t a h1 ht ha) (fun y hy => by
  rw [hy]
  unfold mkA
  rw [decide_eq_true (show 0 < t from h1), Bool.true_and])
theorem tf_A {P : Nat → Nat → Bool} {n e m : Nat} : tf P (ah 1) n e m = tf P mkA n e m := tf_congr (fun s b hs hb => ⟨rfl, by
  unfold mkA
  by_cases h : 0 < s
  · rw [decide_eq_true h, Bool.true_and]
  · have e1 : s = 0 := by omega
    have e2 : b = 0 := by omega
    subst e1
    subst e2
    rfl⟩)
theorem r_luck30 {M : am_M} {o n x : Nat} {τ : Nat → Nat} (hn : n ≤ 24) (h5 : M.1 5 o 0 29 = Int32.ofNat n) (hM : ∀ y, y ≤ 24 → f_X5_levels M o (Int32.ofNat y) = some (Int64.ofNat (τ y))) : ∀ (m j : Nat), x ≤ j → j ≤ n + 1 → n + 2 ≤ m + j → wp (l_X5_luck_30 M o m (Int64.ofNat (sm (fun i => if x ≤ i then τ i else 0) j)) (Int32.ofNat j)) (fun y => y = Int64.ofNat (sm (fun i => if x ≤ i then τ i else 0) (n + 1))) := by
  intro m
  induction m with
  | zero => intro j h1 h2 h3; omega
  | succ m ih =>
    intro j hx hj hm
    rw [l_X5_luck_30, h5]
    refine wp_lt (by omega) (by omega) (fun e => wp_some (by rw [show j = n + 1 from by omega])) (fun e => wp_be (hM j (by omega)) (wp_let (wp_let ?_)))
    rw [l_add, i_s]
    have := ih (j + 1) (by omega) (by omega) (by omega)
    rw [sm, if_pos hx] at this
    exact this
theorem mom_le {c : Nat → Nat} : ∀ r : Nat, mom c r ≤ r
  | 0 => Nat.le_refl _
  | r + 1 => by
    have := mom_le (c := c) r
    show mom c r + (if r + 1 < 2 * sm c (r + 1) then 1 else 0) ≤ r + 1
    split <;> omega
theorem k_luck : ok_luck GT := by
  intro tr b M x1 h
  obtain ⟨⟨D, w, hD, hR⟩, _⟩ := id h
  have hn := w.2.2.2.2.1
  have he := de_le (D := D)
  by_cases hc : 0 ≤ x1.toInt ∧ x1.toInt ≤ 7
  · obtain ⟨s, hs, rfl⟩ := i_nat (m := 7) hc
    have hs8 : s < 8 := by omega
    obtain ⟨c, hF, hr, hd⟩ := sF_c (h.2.1 s hs8)
    have ea := c_agR (M := M) hs8 hs8 hF hF
    have c3 : c = 2 ∨ c = 0 ∨ c = 1 := by have := hF.2.1; omega
    have en := r_noRow (M := ref4 M 3) hs8 ((ref4_600 M 3 s).trans hF.1) hF.2.1
    have en' := r_noRow (M := ref4 M 4) hs8 ((ref4_600 M 4 s).trans hF.1) hF.2.1
    rcases c3 with rfl | rfl | rfl
    · rw [if_pos (Or.inl rfl)] at ea
      rw [if_pos rfl] at en
      refine gt_r1 (g := fun N => f_X5_luck N 0 (Int32.ofNat s)) (v := (-3 : Int32)) (w := 3) (by omega) h (wp_is ?_) (wp_is ?_)
      · unfold f_X4_luck
        exact wp_be (c_agTn ea (by decide)) (wp_let (wp_neg (show ¬ (-3 : Int32) = 0 from by decide) (wp_be (x4_ref3 M) (wp_some rfl))))
      · unfold f_X5_luck
        exact wp_be (r_wholen en (by decide)) (wp_let (wp_neg (show ¬ (-3 : Int32) = 0 from by decide) (wp_some rfl)))
    · rw [if_neg (by decide), if_pos (Or.inl rfl)] at ea
      rw [if_neg (by decide), if_pos rfl] at en'
      refine gt_r1 (g := fun N => f_X5_luck N 0 (Int32.ofNat s)) (v := (-4 : Int32)) (w := 4) (by omega) h (wp_is ?_) (wp_is ?_)
      · unfold f_X4_luck
        exact wp_be (c_agTn ea (by decide)) (wp_let (wp_neg (show ¬ (-4 : Int32) = 0 from by decide) (wp_be (x4_ref4 M) (wp_some rfl))))
      · unfold f_X5_luck
        exact wp_be (r_wholen en' (by decide)) (wp_let (wp_neg (show ¬ (-4 : Int32) = 0 from by decide) (wp_some rfl)))
    · rw [if_neg (by decide), if_neg (by decide)] at ea
      obtain ⟨k, sz, hW⟩ := hr rfl
      obtain ⟨cc, h3⟩ := sR3_of hW
      by_cases hk : tok D sz cc
      · have hcc := tok_c hk h3
        have hkn := hk.1
        subst hkn
        have hml := mom_le (c := cc) (dn D)
        refine gt_q (g := fun N => f_X5_luck N 0 (Int32.ofNat s)) (v := Int32.ofNat (sm (fun i => if mom cc (dn D) ≤ i then tf (PF D) mkA (dn D) (de D) i else 0) (dn D + 1))) (S4 := [(0, some 0, some 0), (0, some 0, some 1), (102, some 0, none), (103, some 0, none), (104, some 0, none), (107, some 0, none)]) (S5 := [(5, some 0, some 29), (728, some 0, none), (732, some 0, none), (733, some 0, none)]) h ?_ rfl (fun N hkp => ?_) rfl
        · unfold f_X4_luck
          rw [i_cl (x := s) (by omega)]
          refine wp_call (c_agT hs8 w hD h3 ea) (fun z hz => wp_let ?_)
          rcases hz.1 with ⟨_, e⟩ | ⟨e, _⟩
          · rw [e]
            refine wp_pos rfl (wp_call (wp_km (c_layFit w (hD.ag hz.2 rfl)) fr_f_X0_layFitting) (fun N1 h1 => wp_call (wp_km (c_markAhead h1.1 hn) fr_f_X0_markAhead) (fun N2 h2 => wp_call (wp_km (c_tallyMarks (mk := ah 1) (h1.1.mv h2.2 rfl rfl (fun _ => rfl)) h2.1 hn (by omega)) fr_f_X0_tallyMarks) (fun N4 h4 => wp_inb hs8 (by omega) ?_))))
            have k4 : keeps [(0, some 0, some 0), (0, some 0, some 1), (102, some 0, none), (103, some 0, none), (104, some 0, none), (107, some 0, none)] M N4 := keeps.trans (keeps.trans (keeps.trans (hz.2.mono rfl) (h1.2.mono rfl)) (h2.2.mono rfl)) (h4.2.mono rfl)
            have ct := c_toldOf (x := 0) (h3.ag k4 rfl) hcc (by omega)
            rw [if_neg (by decide), if_pos rfl] at ct
            refine wp_be ct (wp_be (c_tallyFrom (by omega) h4.1) (wp_some ⟨?_, k4⟩))
            show Int32.ofNat _ = _
            congr 1
            rw [sm_ext (n := dn D + 1) (m := 25) (by omega) (fun a h1 h2 => by rw [tf_A, tf_big0 mkA_0 (by omega), ite_self])]
            exact sm_congr (fun i _ => by rw [tf_A])
          · exact absurd hk e
        · unfold f_X5_luck
          refine wp_call (r_whole hs8 w (hR.ag hkp rfl) (h3.ag hkp rfl) ((hkp.i 600 0 0 s rfl).trans hF.1)) (fun y hy => wp_let ?_)
          rcases hy with ⟨_, e, y2, y3⟩ | ⟨e, _⟩
          · rw [e]
            have rt := r_ofTold (x := 0) hs8 hn (by omega) y2.1 ((h3.ag hkp rfl).ag y3 rfl) hcc
            rw [if_neg (by decide), if_pos rfl] at rt
            refine wp_pos rfl (wp_be rt (wp_call (wp_km (r_countMoments hn y2 isMk_A mkA_0) fr_f_X5_countMoments) (fun N5 h5 => ?_)))
            have ll := r_luck30 (M := N5) (o := 0) (x := mom cc (dn D)) hn ((h5.2.i _ _ _ _ rfl).trans y2.1) (fun y hy => r_levels (P := PF D) (mk := mkA) hn hy he ((h5.2.i _ _ _ _ rfl).trans y2.1) (PF_e D) h5.1) 1000 (mom cc (dn D)) (Nat.le_refl _) (by omega) (by omega)
            rw [sm_zero (fun a ha => if_neg (by omega))] at ll
            refine wp_call ll (fun z hz => wp_some ⟨?_, keeps.trans (y3.mono rfl) (h5.2.mono rfl)⟩)
            show z.toInt32 = _
            rw [hz, l_32]
          · exact absurd hk e
      · refine gt_r (g := fun N => f_X5_luck N 0 (Int32.ofNat s)) (v := (-5 : Int32)) (w := 5) (S4 := [(0, some 0, some 0), (0, some 0, some 1), (103, some 0, none)]) (S5 := [(5, some 0, some 29), (728, some 0, none)]) (by omega) h ?_ rfl (fun N hkp => ?_) rfl
        · unfold f_X4_luck
          refine wp_call (c_agT hs8 w hD h3 ea) (fun z hz => wp_let ?_)
          rcases hz.1 with ⟨e, _⟩ | ⟨_, e⟩
          · exact absurd e hk
          · rw [e]
            exact wp_neg (by decide) (wp_be (x4_ref5 _) (wp_some ⟨z.2, hz.2, rfl⟩))
        · have hkp' : keeps [(0, some 0, some 0), (0, some 0, some 1), (103, some 0, none), (507, some 0, none)] M (ref4 N 5) := keeps.trans (hkp.mono rfl) ((ref4_k N 5).mono rfl)
          unfold f_X5_luck
          refine wp_call (r_whole hs8 w (hR.ag hkp' rfl) (h3.ag hkp' rfl) ((hkp'.i 600 0 0 s rfl).trans hF.1)) (fun y hy => wp_let ?_)
          rcases hy with ⟨e, _⟩ | ⟨_, N', kk, rfl⟩
          · exact absurd e hk
          · exact wp_neg (show ¬ (-5 : Int32) = 0 from by decide) (wp_some ⟨N', kk, rfl⟩)
  · refine gt_r0 (g := fun N => f_X5_luck N 0 x1) (v := (-2 : Int32)) (w := 2) (by omega) h (wp_is ?_) (fun N => wp_is ?_)
    · unfold f_X4_luck
      exact wp_be (c_agTn (c_agN (fun z => hc z.1)) (by decide)) (wp_let (wp_neg (show ¬ (-2 : Int32) = 0 from by decide) (wp_be (x4_ref2 M) (wp_some rfl))))
    · unfold f_X5_luck
      exact wp_be (r_wholen (r_noRowN hc) (by decide)) (wp_let (wp_neg (show ¬ (-2 : Int32) = 0 from by decide) (wp_some rfl)))
/-! two books -/
def fu (c d : Nat → Nat) (n : Nat) : Nat → Nat → Option Nat
  | 0, _ => none
  | f + 1, i => if n ≤ i then none else if c i ≠ 2 ∧ d i ≠ 2 ∧ c i ≠ d i then some i else fu c d n f (i + 1)
theorem fu_lt {c d : Nat → Nat} {n : Nat} : ∀ {f i x : Nat}, fu c d n f i = some x → x < n
  | 0, _, _, h => by cases h
  | f + 1, i, x, h => by
    rw [fu] at h
    by_cases h1 : n ≤ i
    · rw [if_pos h1] at h; cases h
    · rw [if_neg h1] at h
      by_cases h2 : c i ≠ 2 ∧ d i ≠ 2 ∧ c i ≠ d i
      · rw [if_pos h2] at h; cases h; omega
      · rw [if_neg h2] at h
        exact fu_lt h
theorem fu_no {c d : Nat → Nat} {n : Nat} : ∀ {f i : Nat}, fu c d n f i = none → n < f + i → ∀ j, i ≤ j → j < n → ¬ (c j ≠ 2 ∧ d j ≠ 2 ∧ c j ≠ d j)
  | 0, i, _, hf, j, h1, h2 => by omega
  | f + 1, i, h, hf, j, hij, hj => by
    rw [fu] at h
    by_cases h1 : n ≤ i
    · omega
    · rw [if_neg h1] at h
      by_cases h2 : c i ≠ 2 ∧ d i ≠ 2 ∧ c i ≠ d i
      · rw [if_pos h2] at h; cases h
      · rw [if_neg h2] at h
        by_cases e : j = i
        · rw [e]; exact h2
        · exact fu_no h (by omega) j (by omega) hj
theorem sc_eqv {c d : Nat} (hc : c < 2) (hd : d < 2) : sc c = sc d ↔ c = d := by
  rw [sc_n hc, sc_n hd, i_eq (by omega) (by omega)]
theorem c_unlike2 {M : am_M} {p q n : Nat} {c d : Nat → Nat} (h1 : sR3 M p n c) (h2 : sR3 M q n d) : ∀ (m i : Nat), i ≤ n → n + 1 ≤ m + i → wp (l_X4_firstUnlike_2 M p q m (Int32.ofNat i)) (fun y => y = enc (fu c d n m i)) := by
  have hn := h1.1
  intro m
  induction m with
  | zero => intro i h1 h2; omega
  | succ m ih =>
    intro i hi hm
    rw [l_X4_firstUnlike_2, h1.2.1, h2.2.1, fu]
    refine wp_le (by omega) (by omega) (fun e => wp_some (by rw [if_pos e]; rfl)) (fun hlt => wp_le (by omega) (by omega) (fun e => absurd e (by omega)) (fun _ => ?_))
    have v1 : c i ≤ 2 := by rw [← (h1.2.2.2 i hlt).1]; exact vc_le _
    have v2 : d i ≤ 2 := by rw [← (h2.2.2.2 i hlt).1]; exact vc_le _
    have s1 := c_slipAt h1.2.1 h1.1 hlt
    have s2 := c_slipAt h2.2.1 h2.1 hlt
    rw [(h1.2.2.2 i hlt).1] at s1
    rw [(h2.2.2.2 i hlt).1] at s2
    rw [if_neg (show ¬ n ≤ i from by omega), i_s]
    have nx := ih (i + 1) (by omega) (by omega)
    refine wp_be s1 (wp_ite (fun e => wp_let ?_) (fun e => wp_be s2 (wp_ite (fun e' => wp_let ?_) (fun e' => wp_be s1 (wp_be s2 (wp_ite (fun e2 => wp_let ?_) (fun e2 => wp_some ?_)))))))
    · rw [sc_m v1] at e
      rw [if_neg (fun z => z.1 e)]
      exact nx
    · rw [sc_m v2] at e'
      rw [if_neg (fun z => z.2.1 e')]
      exact nx
    · rw [sc_m v1] at e
      rw [sc_m v2] at e'
      rw [sc_eqv (by omega) (by omega)] at e2
      rw [if_neg (fun z => z.2.2 e2)]
      exact nx
    · rw [sc_m v1] at e
      rw [sc_m v2] at e'
      rw [sc_eqv (by omega) (by omega)] at e2
      rw [if_pos ⟨e, e', e2⟩]
      rfl
theorem vc_eq {u v : Int64} (hu : vc u ≠ 2) (hv : vc v ≠ 2) : u = v ↔ vc u = vc v := by
  have key : ∀ x : Int64, vc x ≠ 2 → x = if vc x = 0 then 0 else 1 := fun x hx => by
    unfold vc at *
    by_cases h0 : x = 0
    · rw [if_pos h0, if_pos rfl]; exact h0
    · by_cases h1 : x = 1
      · rw [if_neg h0, if_pos h1, if_neg (by decide)]; exact h1
      · rw [if_neg h0, if_neg h1] at hx
        exact absurd rfl hx
  constructor
  · intro h; rw [h]
  · intro h
    rw [key u hu, key v hv, h]
theorem r_unlike2 {M : am_M} {p q n : Nat} {c d : Nat → Nat} (hp : p < 8) (hq : q < 8) (h1 : sR3 M p n c) (h2 : sR3 M q n d) : ∀ (m i : Nat), i ≤ n → n + 1 ≤ m + i → wp (l_X5_unlikeAt_2 M 0 (Int32.ofNat p) (Int32.ofNat q) m (Int32.ofNat i)) (fun y => y = enc (fu c d n m i)) := by
  have hn := h1.1
  intro m
  induction m with
  | zero => intro i h1 h2; omega
  | succ m ih =>
    intro i hi hm
    rw [l_X5_unlikeAt_2, i_cl (x := p) (by omega), i_cl (x := q) (by omega), h1.2.2.1, fu]
    refine wp_inb hp (by omega) (wp_le (by omega) (by omega) (fun e => wp_some (by rw [if_pos e]; rfl)) (fun hlt => ?_))
    have e1 := (h1.2.2.2 i hlt).2
    have e2 := (h2.2.2.2 i hlt).2
    rw [if_neg (show ¬ n ≤ i from by omega), i_s, i_cl (x := i) (by omega)]
    have nx := ih (i + 1) (by omega) (by omega)
    refine wp_inb hp (by omega) (wp_inb (by omega) (by omega) (wp_be (vc_in M _) (wp_bz (fun z1 => wp_let ?_) (fun z1 => wp_inb hq (by omega) (wp_inb (by omega) (by omega) (wp_be (vc_in M _) (wp_bz (fun z2 => wp_let ?_) (fun z2 => wp_inb hp (by omega) (wp_inb (by omega) (by omega) (wp_inb hq (by omega) (wp_inb (by omega) (by omega) (wp_ite (fun z3 => wp_let ?_) (fun z3 => wp_some ?_))))))))))))) 
    · rw [decide_eq_false_iff_not, e1] at z1
      rw [if_neg (fun z => z1 z.1)]
      exact nx
    · rw [decide_eq_false_iff_not, e2] at z2
      rw [if_neg (fun z => z2 z.2.1)]
      exact nx
    · rw [decide_eq_true_eq] at z1 z2
      rw [lg_cmp_eq, vc_eq z1 z2, e1, e2] at z3
      rw [if_neg (fun z => z.2.2 z3)]
      exact nx
    · rw [decide_eq_true_eq] at z1 z2
      rw [lg_cmp_eq, vc_eq z1 z2, e1, e2] at z3
      rw [e1] at z1
      rw [e2] at z2
      rw [if_pos ⟨z1, z2, z3⟩]
      rfl
