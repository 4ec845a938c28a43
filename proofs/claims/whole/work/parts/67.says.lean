/-! says, head -/
theorem und_M (M : am_M) (a1 : Int32) : ∀ (n : Nat) (a2 a3 : Int32), l_X4_isUnder_4 M a1 n a2 a3 = l_X4_isUnder_4 am_M0 a1 n a2 a3 := by
  intro n
  induction n with
  | zero => intro a2 a3; rfl
  | succ n ih =>
    intro a2 a3
    rw [l_X4_isUnder_4, l_X4_isUnder_4]
    have e : ∀ x y, f_X4_isWithin M x y = f_X4_isWithin am_M0 x y := fun _ _ => rfl
    simp only [e, ih]
theorem und_tab : ∀ k : Nat, k < 7 → 1 ≤ k → ∀ u : Nat, u < 7 → f_X4_isUnder am_M0 (Int32.ofNat k) (Int32.ofNat u) = f_X5_isUnder am_M0 (Int32.ofNat k) (Int32.ofNat u) ∧ (f_X5_isUnder am_M0 (Int32.ofNat k) (Int32.ofNat u) = some 0 ∨ f_X5_isUnder am_M0 (Int32.ofNat k) (Int32.ofNat u) = some 1) := by decide +kernel
theorem und (M N : am_M) {k u : Nat} (h1 : 1 ≤ k) (h6 : k ≤ 6) (hu : u ≤ 6) : ∃ x, f_X4_isUnder M (Int32.ofNat k) (Int32.ofNat u) = some (bz x) ∧ f_X5_isUnder N (Int32.ofNat k) (Int32.ofNat u) = some (bz x) := by
  obtain ⟨e1, e2⟩ := und_tab k (by omega) h1 u (by omega)
  have e3 : f_X4_isUnder M (Int32.ofNat k) (Int32.ofNat u) = f_X4_isUnder am_M0 (Int32.ofNat k) (Int32.ofNat u) := by
    unfold f_X4_isUnder
    rw [und_M]
  have e4 : f_X5_isUnder N (Int32.ofNat k) (Int32.ofNat u) = f_X5_isUnder am_M0 (Int32.ofNat k) (Int32.ofNat u) := rfl
  rcases e2 with e2 | e2
  · exact ⟨false, by rw [e3, e1, e2]; rfl, by rw [e4, e2]; rfl⟩
  · exact ⟨true, by rw [e3, e1, e2]; rfl, by rw [e4, e2]; rfl⟩
theorem c_kind {M : am_M} {s k a : Nat} (h : sD M s k a) : f_X2_kind M s = some (Int32.ofNat k) := by
  unfold f_X2_kind
  rw [h.2.2.2.1, show (10 : Int32) = Int32.ofNat 10 from rfl, i_sub (by omega), show 10 + k - 10 = k from by omega]
theorem k_says : ok_says GT := by
  intro tr b M x1 x2 h
  obtain ⟨⟨D, w, hD, hR⟩, _⟩ := id h
  by_cases hc : (0 ≤ x1.toInt ∧ x1.toInt ≤ 7) ∧ (0 ≤ x2.toInt ∧ x2.toInt ≤ 6)
  · obtain ⟨c1, c2⟩ := hc
    obtain ⟨s, hs, rfl⟩ := i_nat (m := 7) c1
    obtain ⟨u, hu, rfl⟩ := i_nat (m := 6) c2
    have hs8 : s < 8 := by omega
    rcases sF_of (h.2.1 s hs8) with hF | ⟨hF, k, n, hW⟩ | ⟨hF, k, a, hW⟩
    · refine gt_r1 (g := fun N => f_X5_says N 0 (Int32.ofNat s) (Int32.ofNat u)) (v := (-4 : Int32)) (w := 4) (by omega) h (wp_is ?_) (wp_is ?_)
      · unfold f_X4_says
        rw [i_cl (x := s) (by omega)]
        exact wp_be (f_sh M _) (wp_neg (bz_dn c1) (wp_be (f_w M _ (m := 6) (by decide)) (wp_neg (bz_dn c2) (wp_inb hs8 (by omega) (wp_be hF.2.2.1 (wp_neg (by decide) (wp_be (x4_ref4 M) (wp_some rfl))))))))
      · unfold f_X5_says
        rw [i_cl (x := s) (by omega), ref4_600, hF.1]
        exact wp_be (f_i _ _ (l := 0) (m := 7) (by decide) (by decide)) (wp_neg (bz_dn c1) (wp_be (f_i _ _ (l := 0) (m := 6) (by decide) (by decide)) (wp_neg (bz_dn c2) (wp_inb hs8 (by omega) (wp_neg (by decide) (wp_inb hs8 (by omega) (wp_neg (by decide) (wp_inb hs8 (by omega) (wp_pos (by decide) (wp_be (x5_ref4 _) (wp_some rfl)))))))))))
    · refine gt_r1 (g := fun N => f_X5_says N 0 (Int32.ofNat s) (Int32.ofNat u)) (v := (-3 : Int32)) (w := 3) (by omega) h (wp_is ?_) (wp_is ?_)
      · unfold f_X4_says
        rw [i_cl (x := s) (by omega)]
        exact wp_be (f_sh M _) (wp_neg (bz_dn c1) (wp_be (f_w M _ (m := 6) (by decide)) (wp_neg (bz_dn c2) (wp_inb hs8 (by omega) (wp_be hF.2.2.1 (wp_pos (by decide) (wp_be hF.2.2.2.2 (wp_pos (by decide) (wp_be (x4_ref3 M) (wp_some rfl))))))))))
      · unfold f_X5_says
        rw [i_cl (x := s) (by omega), ref4_600, hF.1]
        exact wp_be (f_i _ _ (l := 0) (m := 7) (by decide) (by decide)) (wp_neg (bz_dn c1) (wp_be (f_i _ _ (l := 0) (m := 6) (by decide) (by decide)) (wp_neg (bz_dn c2) (wp_inb hs8 (by omega) (wp_pos (by decide) (wp_be (x5_ref3 _) (wp_some rfl)))))))
    · obtain ⟨k1, k6, a9, q1, q2, q3, q4, q5⟩ := id hW
      obtain ⟨x, u4, u5⟩ := und M (ref4 M 3) k1 k6 hu
      cases x with
      | false =>
        refine gt_r1 (g := fun N => f_X5_says N 0 (Int32.ofNat s) (Int32.ofNat u)) (v := (-3 : Int32)) (w := 3) (by omega) h (wp_is ?_) (wp_is ?_)
        · unfold f_X4_says
          rw [i_cl (x := s) (by omega)]
          exact wp_be (f_sh M _) (wp_neg (bz_dn c1) (wp_be (f_w M _ (m := 6) (by decide)) (wp_neg (bz_dn c2) (wp_inb hs8 (by omega) (wp_be hF.2.2.1 (wp_pos (by decide) (wp_be hF.2.2.2.2 (wp_neg (by decide) (wp_be (c_kind hW) (wp_be u4 (wp_pos (by decide) (wp_be (x4_ref3 M) (wp_some rfl)))))))))))))
        · unfold f_X5_says
          rw [i_cl (x := s) (by omega), ref4_600, q2, show (ref4 M 3).1 605 0 0 s = Int32.ofNat k from (si_k (by decide)).trans q3]
          exact wp_be (f_i _ _ (l := 0) (m := 7) (by decide) (by decide)) (wp_neg (bz_dn c1) (wp_be (f_i _ _ (l := 0) (m := 6) (by decide) (by decide)) (wp_neg (bz_dn c2) (wp_inb hs8 (by omega) (wp_neg (by decide) (wp_inb hs8 (by omega) (wp_pos (by decide) (wp_inb hs8 (by omega) (wp_be u5 (wp_pos (by decide) (wp_be (x5_ref3 _) (wp_some rfl))))))))))))
      | true =>
        refine gt_q (g := fun N => f_X5_says N 0 (Int32.ofNat s) (Int32.ofNat u)) (v := if u = 0 then Int32.ofNat a else Int32.ofNat (SV D k a)) (S4 := [(0, some 0, some 0), (0, some 0, some 1), (103, some 0, none), (105, some 0, none), (106, some 0, none)]) (S5 := [(5, some 0, some 29), (728, some 0, none), (730, some 0, none), (731, some 0, none), (735, some 0, none)]) h ?_ rfl (fun N hk => ?_) rfl
        · unfold f_X4_says
          rw [i_cl (x := s) (by omega), q5]
          refine wp_be (f_sh M _) (wp_neg (bz_dn c1) (wp_be (f_w M _ (m := 6) (by decide)) (wp_neg (bz_dn c2) (wp_inb hs8 (by omega) (wp_be hF.2.2.1 (wp_pos (by decide) (wp_be hF.2.2.2.2 (wp_neg (by decide) (wp_be (c_kind hW) (wp_be u4 (wp_neg (by decide) (wp_ieq (y := 0) (by omega) (by omega) (fun e => wp_some ⟨by rw [if_pos e], keeps.rf _ _⟩) (fun e => wp_be (c_kind hW) ?_)))))))))))))
          refine wp_call (wp_kp (c_saying w hD k1 k6 a9) fr_f_X4_saying) (fun y hy => wp_some ⟨?_, hy.2⟩)
          show y.1 = _
          rw [hy.1, if_neg e]
        · obtain ⟨x', u4', u5'⟩ := und M N k1 k6 hu
          have ex : x' = true := by
            have := u4'.symm.trans u4
            cases x' with
            | true => rfl
            | false => exact absurd this (by decide)
          subst ex
          have r2 : N.1 600 0 0 s = 2 := (hk.i _ _ _ _ rfl).trans q2
          have r3 : N.1 605 0 0 s = Int32.ofNat k := (hk.i _ _ _ _ rfl).trans q3
          have r4 : N.1 606 0 0 s = Int32.ofNat a := (hk.i _ _ _ _ rfl).trans q4
          unfold f_X5_says
          rw [i_cl (x := s) (by omega), r2, r3, r4]
          refine wp_be (f_i _ _ (l := 0) (m := 7) (by decide) (by decide)) (wp_neg (bz_dn c1) (wp_be (f_i _ _ (l := 0) (m := 6) (by decide) (by decide)) (wp_neg (bz_dn c2) (wp_inb hs8 (by omega) (wp_neg (by decide) (wp_inb hs8 (by omega) (wp_pos (by decide) (wp_inb hs8 (by omega) (wp_be u5' (wp_neg (by decide) (wp_inb hs8 (by omega) (wp_neg (by decide) ?_))))))))))))
          refine wp_ieq (y := 0) (by omega) (by omega) (fun e => wp_inb hs8 (by omega) (wp_some ⟨by rw [if_pos e], keeps.rf _ _⟩)) (fun e => wp_inb hs8 (by omega) (wp_inb hs8 (by omega) ?_))
          refine wp_call (wp_kp (r_drawn w.H (hR.ag hk rfl).H k1 k6 a9) fr_f_X5_drawn) (fun y hy => wp_some ⟨?_, hy.2⟩)
          show y.1.toInt32 = _
          rw [hy.1, l_32, if_neg e]
  · refine gt_r0 (g := fun N => f_X5_says N 0 x1 x2) (v := (-2 : Int32)) (w := 2) (by omega) h (wp_is ?_) (fun N => wp_is ?_)
    · unfold f_X4_says
      refine wp_be (f_sh M _) (wp_bz (fun _ => wp_be (x4_ref2 M) (wp_some rfl)) (fun e1 => wp_be (f_w M _ (m := 6) (by decide)) (wp_bz (fun _ => wp_be (x4_ref2 M) (wp_some rfl)) (fun e2 => ?_))))
      rw [decide_eq_true_eq] at e1 e2
      exact absurd ⟨e1, e2⟩ hc
    · unfold f_X5_says
      refine wp_be (f_i N _ (l := 0) (m := 7) (by decide) (by decide)) (wp_bz (fun _ => wp_be (x5_ref2 N) (wp_some rfl)) (fun e1 => wp_be (f_i N _ (l := 0) (m := 6) (by decide) (by decide)) (wp_bz (fun _ => wp_be (x5_ref2 N) (wp_some rfl)) (fun e2 => ?_))))
      rw [decide_eq_true_eq] at e1 e2
      exact absurd ⟨e1, e2⟩ hc
/-! head -/
def hG (D : dd) (M : am_M) (s : Nat) : Option Nat := if M.1 600 0 0 s = 2 then some (SV D (M.1 605 0 0 s).toNatClampNeg (M.1 606 0 0 s).toNatClampNeg) else none
def hd (g : Nat → Option Nat) : Nat → Option Nat × Nat
  | 0 => (none, 0)
  | s + 1 => match g s with
    | none => hd g s
    | some v => match (hd g s).1 with
      | none => (some s, v)
      | some _ => if v ≤ (hd g s).2 then hd g s else (some s, v)
def enc : Option Nat → Int32
  | none => -1
  | some s => Int32.ofNat s
theorem hd_n {g : Nat → Option Nat} {s : Nat} (h : g s = none) : hd g (s + 1) = hd g s := by
  rw [hd, h]
theorem hd_0 {g : Nat → Option Nat} {s v : Nat} (h : g s = some v) (h1 : (hd g s).1 = none) : hd g (s + 1) = (some s, v) := by
  rw [hd, h]
  simp only [h1]
theorem hd_1 {g : Nat → Option Nat} {s v f : Nat} (h : g s = some v) (h1 : (hd g s).1 = some f) : hd g (s + 1) = if v ≤ (hd g s).2 then hd g s else (some s, v) := by
  rw [hd, h]
  simp only [h1]
theorem hd_f {g : Nat → Option Nat} : ∀ {s f : Nat}, (hd g s).1 = some f → f < s
  | 0, f, h => by cases h
  | s + 1, f, h => by
    cases hg : g s with
    | none =>
      rw [hd_n hg] at h
      have := hd_f h
      omega
    | some v =>
      cases h1 : (hd g s).1 with
      | none =>
        rw [hd_0 hg h1] at h
        cases h
        omega
      | some f' =>
        rw [hd_1 hg h1] at h
        by_cases hv : v ≤ (hd g s).2
        · rw [if_pos hv] at h
          have := hd_f h
          omega
        · rw [if_neg hv] at h
          cases h
          omega
theorem hd_b {g : Nat → Option Nat} (hg : ∀ s v, g s = some v → v ≤ 16777216) : ∀ s : Nat, (hd g s).2 ≤ 16777216
  | 0 => Nat.zero_le _
  | s + 1 => by
    have ih := hd_b hg s
    cases h : g s with
    | none => rw [hd_n h]; exact ih
    | some v =>
      have hv := hg s v h
      cases h1 : (hd g s).1 with
      | none => rw [hd_0 h h1]; exact hv
      | some f =>
        rw [hd_1 h h1]
        split
        · exact ih
        · exact hv
theorem enc_1 {f : Nat} (h : f < 1000) : ¬ enc (some f) = -1 := fun z => by
  have z : Int32.ofNat f = -1 := z
  rw [← Int32.toInt_inj, i_ti (by omega)] at z
  have : (-1 : Int32).toInt = -1 := by decide
  omega
theorem hG_D {D : dd} {M : am_M} {s k a : Nat} (h : sD M s k a) : hG D M s = some (SV D k a) := by
  obtain ⟨k1, k6, a9, q1, q2, q3, q4, q5⟩ := h
  unfold hG
  rw [if_pos q2, q3, q4, i_cl (by omega), i_cl (by omega)]
theorem hG_n {D : dd} {M : am_M} {s c : Nat} (h : M.1 600 0 0 s = Int32.ofNat c) (hc : c < 2) : hG D M s = none := by
  unfold hG
  rw [if_neg (fun z => by rw [h, show (2 : Int32) = Int32.ofNat 2 from rfl, i_eq (by omega) (by omega)] at z; omega)]
theorem hG_b {D : dd} (w : WH D) {M : am_M} (s v : Nat) (h : hG D M s = some v) : v ≤ 16777216 := by
  unfold hG at h
  split at h
  · cases h
    exact SV_b w _ _
  · cases h
theorem hG_mv {D : dd} {M N : am_M} {S : kS} (hk : keeps S M N) (hd : dj S tSh = true) (s : Nat) : hG D N s = hG D M s := by
  unfold hG
  have ha := hk.ag hd
  rw [(ha 600 0 0 s rfl).1, (ha 605 0 0 s rfl).1, (ha 606 0 0 s rfl).1]
theorem c_head6 {D : dd} {g : Nat → Option Nat} (w : WF D) (hb : ∀ s v, g s = some v → v ≤ 16777216) : ∀ (m s : Nat) (M : am_M), s ≤ 8 → 9 ≤ m + s → DR M 0 D → gtS M → (∀ t, hG D M t = g t) → wp (l_X4_head_6 m (enc (hd g s).1) (Int32.ofNat (hd g s).2) (Int32.ofNat s) M) (fun y => y.1 = enc (hd g 8).1) := by
  intro m
  induction m with
  | zero => intro s M h1 h2; omega
  | succ m ih =>
    intro s M hs hm hD hS hg
    rw [l_X4_head_6, i_cl (x := s) (by omega)]
    refine wp_le (x := 8) (by omega) (by omega) (fun h => wp_some (by rw [show s = 8 from by omega])) (fun h => ?_)
    refine wp_inb (by omega) (by omega) ?_
    have b1 := hd_b hb s
    rcases sF_of (hS s h) with hF | ⟨hF, k, n, hW⟩ | ⟨hF, k, a, hW⟩
    · refine wp_be hF.2.2.2.2 (wp_call (wp_pos (by decide) (wp_some rfl)) (fun z hz => wp_let ?_))
      rw [← hz, i_s]
      have := ih (s + 1) M (by omega) (by omega) hD hS hg
      rw [hd_n ((hg s).symm.trans (hG_n hF.1 (by omega)))] at this
      exact this
    · refine wp_be hF.2.2.2.2 (wp_call (wp_pos (by decide) (wp_some rfl)) (fun z hz => wp_let ?_))
      rw [← hz, i_s]
      have := ih (s + 1) M (by omega) (by omega) hD hS hg
      rw [hd_n ((hg s).symm.trans (hG_n hF.1 (by omega)))] at this
      exact this
    · obtain ⟨k1, k6, a9, q1, q2, q3, q4, q5⟩ := id hW
      have eg : g s = some (SV D k a) := (hg s).symm.trans (hG_D hW)
      have bv := hb s _ eg
      refine wp_be hF.2.2.2.2 (wp_call (Q := fun z => z.1 = enc (hd g (s + 1)).1 ∧ z.2.1 = Int32.ofNat (hd g (s + 1)).2 ∧ keeps [(0, some 0, some 0), (0, some 0, some 1), (103, some 0, none), (105, some 0, none), (106, some 0, none)] M z.2.2) (wp_neg (by decide) (wp_inb (by omega) (by omega) (wp_be (c_kind hW) (wp_inb (by omega) (by omega) ?_)))) (fun z hz => wp_let ?_))
      · rw [q5]
        refine wp_call (wp_kp (c_saying w hD k1 k6 a9) fr_f_X4_saying) (fun y hy => wp_let ?_)
        rw [hy.1]
        cases h1 : (hd g s).1 with
        | none =>
          refine wp_pos rfl (wp_some ?_)
          rw [hd_0 eg h1]
          exact ⟨rfl, rfl, hy.2⟩
        | some f =>
          have hf := hd_f h1
          refine wp_neg (enc_1 (by omega)) (wp_le (by omega) (by omega) (fun hle => wp_some ?_) (fun hgt => wp_some ?_))
          · rw [hd_1 eg h1, if_pos hle, h1]
            exact ⟨rfl, rfl, hy.2⟩
          · rw [hd_1 eg h1, if_neg (by omega)]
            exact ⟨rfl, rfl, hy.2⟩
      · rw [hz.1, hz.2.1, i_s]
        exact ih (s + 1) z.2.2 (by omega) (by omega) (hD.ag hz.2.2 rfl) (hS.ag hz.2.2 rfl) (fun t => (hG_mv hz.2.2 rfl t).trans (hg t))
theorem r_head7 {D : dd} {g : Nat → Option Nat} (w : WF D) (hb : ∀ s v, g s = some v → v ≤ 16777216) : ∀ (m s : Nat) (M : am_M), s ≤ 8 → 9 ≤ m + s → RF M 0 D → gtS M → (∀ t, hG D M t = g t) → wp (l_X5_head_7 0 m (enc (hd g s).1) (Int64.ofNat (hd g s).2) (Int32.ofNat s) M) (fun y => y.1 = enc (hd g 8).1) := by
  intro m
  induction m with
  | zero => intro s M h1 h2; omega
  | succ m ih =>
    intro s M hs hm hR hS hg
    rw [l_X5_head_7, i_cl (x := s) (by omega)]
    refine wp_le (x := 8) (by omega) (by omega) (fun h => wp_some (by rw [show s = 8 from by omega])) (fun h => ?_)
    refine wp_inb (by omega) (by omega) ?_
    have b1 := hd_b hb s
    have no : ∀ c, c < 2 → M.1 600 0 0 s = Int32.ofNat c → ¬ M.1 600 0 0 s = 2 := fun c hc e z => by
      rw [e, show (2 : Int32) = Int32.ofNat 2 from rfl, i_eq (by omega) (by omega)] at z
      omega
    rcases sF_of (hS s h) with hF | ⟨hF, k, n, hW⟩ | ⟨hF, k, a, hW⟩
    · refine wp_call (wp_neg (no 0 (by omega) hF.1) (wp_some rfl)) (fun z hz => wp_let ?_)
      rw [← hz, i_s]
      have := ih (s + 1) M (by omega) (by omega) hR hS hg
      rw [hd_n ((hg s).symm.trans (hG_n hF.1 (by omega)))] at this
      exact this
    · refine wp_call (wp_neg (no 1 (by omega) hF.1) (wp_some rfl)) (fun z hz => wp_let ?_)
      rw [← hz, i_s]
      have := ih (s + 1) M (by omega) (by omega) hR hS hg
      rw [hd_n ((hg s).symm.trans (hG_n hF.1 (by omega)))] at this
      exact this
    · obtain ⟨k1, k6, a9, q1, q2, q3, q4, q5⟩ := id hW
      have eg : g s = some (SV D k a) := (hg s).symm.trans (hG_D hW)
      have bv := hb s _ eg
      refine wp_call (Q := fun z => z.1 = enc (hd g (s + 1)).1 ∧ z.2.1 = Int64.ofNat (hd g (s + 1)).2 ∧ keeps [(5, some 0, some 29), (728, some 0, none), (730, some 0, none), (731, some 0, none), (735, some 0, none)] M z.2.2) (wp_pos q2 (wp_inb (by omega) (by omega) (wp_inb (by omega) (by omega) ?_))) (fun z hz => wp_let ?_)
      · rw [q3, q4]
        refine wp_call (wp_kp (r_drawn w.H hR.H k1 k6 a9) fr_f_X5_drawn) (fun y hy => wp_let ?_)
        rw [hy.1]
        cases h1 : (hd g s).1 with
        | none =>
          refine wp_pos rfl (wp_some ?_)
          rw [hd_0 eg h1]
          exact ⟨rfl, rfl, hy.2⟩
        | some f =>
          have hf := hd_f h1
          refine wp_neg (enc_1 (by omega)) (wp_ite (fun hle => wp_some ?_) (fun hgt => wp_some ?_))
          · rw [lg_cmp_le, l_le (by omega) (by omega)] at hle
            rw [hd_1 eg h1, if_pos hle, h1]
            exact ⟨rfl, rfl, hy.2⟩
          · rw [lg_cmp_le, l_le (by omega) (by omega)] at hgt
            rw [hd_1 eg h1, if_neg hgt]
            exact ⟨rfl, rfl, hy.2⟩
      · rw [hz.1, hz.2.1, i_s]
        exact ih (s + 1) z.2.2 (by omega) (by omega) (hR.ag hz.2.2 rfl) (hS.ag hz.2.2 rfl) (fun t => (hG_mv hz.2.2 rfl t).trans (hg t))
theorem k_head : ok_head GT := by
  intro tr b M h
  obtain ⟨⟨D, w, hD, hR⟩, hS, _⟩ := id h
  have l4 := wp_kp (c_head6 (D := D) (g := hG D M) w (hG_b w.H) 1000 0 M (by omega) (by omega) hD hS (fun _ => rfl)) (fr_l_X4_head_6 _ _ _ _ _)
  have l5 : ∀ N S, keeps S M N → dj S tAll = true → wp (l_X5_head_7 0 1000 (-1 : Int32) (0 : Int64) (0 : Int32) N) (fun y => y.1 = enc (hd (hG D M) 8).1 ∧ keeps [(5, some 0, some 29), (728, some 0, none), (730, some 0, none), (731, some 0, none), (735, some 0, none)] N y.2) := fun N S hk hdj => wp_kp (r_head7 (D := D) (g := hG D M) w (hG_b w.H) 1000 0 N (by omega) (by omega) (hR.ag hk (djM hdj tA_R0)) (hS.ag hk (djM hdj tA_Sh)) (fun t => hG_mv hk (djM hdj tA_Sh) t)) (fr_l_X5_head_7 _ _ _ _ _)
  cases hh : (hd (hG D M) 8).1 with
  | none =>
    rw [hh] at l4
    refine gt_r (g := fun N => f_X5_head N 0) (v := (-5 : Int32)) (w := 5) (S4 := [(0, some 0, some 0), (0, some 0, some 1), (103, some 0, none), (105, some 0, none), (106, some 0, none)]) (S5 := [(5, some 0, some 29), (728, some 0, none), (730, some 0, none), (731, some 0, none), (735, some 0, none)]) (by omega) h ?_ rfl (fun N hk => ?_) rfl
    · unfold f_X4_head
      refine wp_call l4 (fun y hy => ?_)
      rw [hy.1]
      exact wp_pos rfl (wp_be (x4_ref5 y.2) (wp_some ⟨y.2, hy.2, rfl⟩))
    · unfold f_X5_head
      have hk' : keeps [(0, some 0, some 0), (0, some 0, some 1), (103, some 0, none), (105, some 0, none), (106, some 0, none), (507, some 0, none)] M (ref4 N 5) := keeps.trans (hk.mono rfl) ((ref4_k N 5).mono rfl)
      have l5' := wp_kp (r_head7 (D := D) (g := hG D M) w (hG_b w.H) 1000 0 (ref4 N 5) (by omega) (by omega) (hR.ag hk' rfl) (hS.ag hk' rfl) (fun t => hG_mv hk' rfl t)) (fr_l_X5_head_7 _ _ _ _ _)
      rw [hh] at l5'
      refine wp_call l5' (fun y hy => ?_)
      rw [hy.1]
      exact wp_pos rfl (wp_be (x5_ref5 y.2) (wp_some ⟨y.2, hy.2, rfl⟩))
  | some f =>
    have hf := hd_f hh
    rw [hh] at l4
    refine gt_q (g := fun N => f_X5_head N 0) (v := enc (some f)) (S4 := [(0, some 0, some 0), (0, some 0, some 1), (103, some 0, none), (105, some 0, none), (106, some 0, none)]) (S5 := [(5, some 0, some 29), (728, some 0, none), (730, some 0, none), (731, some 0, none), (735, some 0, none)]) h ?_ rfl (fun N hk => ?_) rfl
    · unfold f_X4_head
      refine wp_call l4 (fun y hy => ?_)
      rw [hy.1]
      exact wp_neg (enc_1 (by omega)) (wp_some ⟨rfl, hy.2⟩)
    · unfold f_X5_head
      have l5' := l5 N _ hk rfl
      rw [hh] at l5'
      refine wp_call l5' (fun y hy => ?_)
      rw [hy.1]
      exact wp_neg (enc_1 (by omega)) (wp_some ⟨rfl, hy.2⟩)
