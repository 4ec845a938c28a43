/-! the tie between class and reference -/
abbrev kS : Type := List (Nat × Option Nat × Option Nat)
def ovl (x y : Option Nat) : Bool := match x with | none => true | some a => (match y with | none => true | some b => Nat.beq a b)
def dj (S T : kS) : Bool := S.all (fun e => T.all (fun d => !(Nat.beq e.1 d.1 && ovl e.2.1 d.2.1 && ovl e.2.2 d.2.2)))
theorem ovl_o {x y : Option Nat} {o : Nat} (h1 : (match x with | none => true | some z => Nat.beq z o) = true) (h2 : (match y with | none => true | some z => Nat.beq z o) = true) : ovl x y = true := by
  cases x with
  | none => rfl
  | some a =>
    cases y with
    | none => rfl
    | some b =>
      simp only [kp_beq] at h1 h2
      show Nat.beq a b = true
      rw [kp_beq, h1, h2]
theorem dj_S {S T : kS} (h : dj S T = true) {k o j : Nat} (hT : kpS T k o j = true) : kpS S k o j = false := by
  cases hS : kpS S k o j with
  | false => rfl
  | true =>
    obtain ⟨e, he, h1⟩ := List.any_eq_true.mp hS
    obtain ⟨d, hd, h2⟩ := List.any_eq_true.mp hT
    have h3 := List.all_eq_true.mp (List.all_eq_true.mp h e he) d hd
    simp only [Bool.and_eq_true] at h1 h2
    have e1 : Nat.beq e.1 d.1 = true := by
      have a1 := kp_beq.mp h1.1.1
      have a2 := kp_beq.mp h2.1.1
      rw [kp_beq, a1, a2]
    rw [e1, ovl_o h1.1.2 h2.1.2, ovl_o h1.2 h2.2] at h3
    cases h3
def agr (T : kS) (M N : am_M) : Prop := ∀ k o i j, kpS T k o j = true → N.1 k o i j = M.1 k o i j ∧ N.2 k o i j = M.2 k o i j
theorem keeps.ag {S T : kS} {M N : am_M} (hk : keeps S M N) (hd : dj S T = true) : agr T M N := fun k o i j hT => hk k o i j (dj_S hd hT)
theorem kpS_h0 {k o j : Nat} {S : kS} : kpS ((k, some o, none) :: S) k o j = true := by
  unfold kpS
  rw [List.any_cons, Nat.beq_refl]
  show (true && Nat.beq o o && true || _) = true
  rw [Nat.beq_refl]
  rfl
theorem kpS_h1 {k o j : Nat} {S : kS} : kpS ((k, some o, some j) :: S) k o j = true := by
  unfold kpS
  rw [List.any_cons, Nat.beq_refl]
  show (true && Nat.beq o o && Nat.beq j j || _) = true
  rw [Nat.beq_refl, Nat.beq_refl]
  rfl
theorem kpS_t {e : Nat × Option Nat × Option Nat} {k o j : Nat} {S : kS} (h : kpS S k o j = true) : kpS (e :: S) k o j = true := by
  unfold kpS at *
  rw [List.any_cons, h, Bool.or_true]
def tD (o : Nat) : kS := [(1, some o, none), (203, some o, none), (204, some o, none), (205, some o, none), (208, some o, none), (210, some o, none), (211, some o, none), (212, some o, none)]
def tR5 (o : Nat) : kS := [(5, some o, some 10), (5, some o, some 16), (5, some o, some 14), (5, some o, some 18), (611, some o, none), (612, some o, none), (613, some o, none), (617, some o, none), (715, some o, none)]
def tSh : kS := [(2, none, none), (303, none, none), (600, some 0, none), (601, some 0, none), (602, some 0, none), (605, some 0, none), (606, some 0, none), (703, some 0, none)]
def tTp : kS := [(3, some 0, some 0), (402, some 0, none), (5, some 0, some 8), (607, some 0, none)]
def tRf : kS := [(507, some 0, none), (609, some 0, none)]
def tK4 : kS := [(4, some 0, some 8)]
def tAll : kS := [(1, some 0, none), (203, some 0, none), (204, some 0, none), (205, some 0, none), (208, some 0, none), (210, some 0, none), (211, some 0, none), (212, some 0, none), (5, some 0, some 10), (5, some 0, some 16), (5, some 0, some 14), (5, some 0, some 18), (611, some 0, none), (612, some 0, none), (613, some 0, none), (617, some 0, none), (715, some 0, none), (2, none, none), (303, none, none), (600, some 0, none), (601, some 0, none), (602, some 0, none), (605, some 0, none), (606, some 0, none), (703, some 0, none), (3, some 0, some 0), (402, some 0, none), (5, some 0, some 8), (607, some 0, none), (507, some 0, none), (609, some 0, none), (4, some 0, some 8), (1, some 1, none), (203, some 1, none), (204, some 1, none), (205, some 1, none), (208, some 1, none), (210, some 1, none), (211, some 1, none), (212, some 1, none), (5, some 2, some 10), (5, some 2, some 16), (5, some 2, some 14), (5, some 2, some 18), (611, some 2, none), (612, some 2, none), (613, some 2, none), (617, some 2, none), (715, some 2, none)]
theorem djM {S T T' : kS} (h : dj S T = true) (hT : ∀ d ∈ T', d ∈ T) : dj S T' = true := by
  refine List.all_eq_true.mpr (fun e he => List.all_eq_true.mpr (fun d hd => ?_))
  exact List.all_eq_true.mp (List.all_eq_true.mp h e he) d (hT d hd)
theorem tA_D0 : ∀ d ∈ tD 0, d ∈ tAll := by decide +kernel
theorem tA_D1 : ∀ d ∈ tD 1, d ∈ tAll := by decide +kernel
theorem tA_R0 : ∀ d ∈ tR5 0, d ∈ tAll := by decide +kernel
theorem tA_R2 : ∀ d ∈ tR5 2, d ∈ tAll := by decide +kernel
theorem tA_Sh : ∀ d ∈ tSh, d ∈ tAll := by decide +kernel
theorem tA_Tp : ∀ d ∈ tTp, d ∈ tAll := by decide +kernel
theorem tA_Rf : ∀ d ∈ tRf, d ∈ tAll := by decide +kernel
theorem tA_K4 : ∀ d ∈ tK4, d ∈ tAll := by decide +kernel
theorem drS_dj {S : kS} {o : Nat} (h : dj S (tD o) = true) : drS o S :=
  ⟨fun _ => dj_S h kpS_h0, fun _ => dj_S h (kpS_t kpS_h0), fun _ => dj_S h (kpS_t (kpS_t kpS_h0)), fun _ => dj_S h (kpS_t (kpS_t (kpS_t kpS_h0))), fun _ => dj_S h (kpS_t (kpS_t (kpS_t (kpS_t kpS_h0)))), fun _ => dj_S h (kpS_t (kpS_t (kpS_t (kpS_t (kpS_t kpS_h0))))), fun _ => dj_S h (kpS_t (kpS_t (kpS_t (kpS_t (kpS_t (kpS_t kpS_h0)))))), fun _ => dj_S h (kpS_t (kpS_t (kpS_t (kpS_t (kpS_t (kpS_t (kpS_t kpS_h0))))))) ⟩
theorem rfS_dj {S : kS} {o : Nat} (h : dj S (tR5 o) = true) : rfS o S :=
  ⟨dj_S h kpS_h1, dj_S h (kpS_t kpS_h1), dj_S h (kpS_t (kpS_t kpS_h1)), dj_S h (kpS_t (kpS_t (kpS_t kpS_h1))), fun _ => dj_S h (kpS_t (kpS_t (kpS_t (kpS_t kpS_h0)))), fun _ => dj_S h (kpS_t (kpS_t (kpS_t (kpS_t (kpS_t kpS_h0))))), fun _ => dj_S h (kpS_t (kpS_t (kpS_t (kpS_t (kpS_t (kpS_t kpS_h0)))))), fun _ => dj_S h (kpS_t (kpS_t (kpS_t (kpS_t (kpS_t (kpS_t (kpS_t kpS_h0))))))), fun _ => dj_S h (kpS_t (kpS_t (kpS_t (kpS_t (kpS_t (kpS_t (kpS_t (kpS_t kpS_h0)))))))) ⟩
theorem DR.ag {M N : am_M} {o : Nat} {D : dd} {S : kS} (h : DR M o D) (hk : keeps S M N) (hd : dj S (tD o) = true) : DR N o D := h.mv hk (drS_dj hd)
theorem RF.ag {M N : am_M} {o : Nat} {D : dd} {S : kS} (h : RF M o D) (hk : keeps S M N) (hd : dj S (tR5 o) = true) : RF N o D := h.mv hk (rfS_dj hd)
/-- a shelf -/
def gtSs (M : am_M) (s : Nat) : Prop := (M.1 2 s 0 0 = -1 ∧ M.1 600 0 0 s = 0) ∨ (∃ k n : Nat, k ≤ 4 ∧ n ≤ 40 ∧ M.1 2 s 0 0 = Int32.ofNat k ∧ M.1 600 0 0 s = 1 ∧ M.1 601 0 0 s = Int32.ofNat k ∧ M.1 2 s 0 1 = Int32.ofNat n ∧ M.1 602 0 0 s = Int32.ofNat n ∧ ∀ j, j < 40 → M.2 303 s 0 j = M.2 703 0 s j) ∨ (∃ k a : Nat, 1 ≤ k ∧ k ≤ 6 ∧ a ≤ 9 ∧ M.1 2 s 0 0 = Int32.ofNat (10 + k) ∧ M.1 600 0 0 s = 2 ∧ M.1 605 0 0 s = Int32.ofNat k ∧ M.1 606 0 0 s = Int32.ofNat a ∧ M.1 2 s 0 2 = Int32.ofNat a)
theorem gtSs.ag {M N : am_M} {s : Nat} (h : gtSs M s) (ha : agr tSh M N) : gtSs N s := by
  have a1 : ∀ j, N.1 2 s 0 j = M.1 2 s 0 j := fun j => (ha 2 s 0 j rfl).1
  have a2 : ∀ j, N.2 303 s 0 j = M.2 303 s 0 j := fun j => (ha 303 s 0 j rfl).2
  have a3 : N.1 600 0 0 s = M.1 600 0 0 s := (ha 600 0 0 s rfl).1
  have a4 : N.1 601 0 0 s = M.1 601 0 0 s := (ha 601 0 0 s rfl).1
  have a5 : N.1 602 0 0 s = M.1 602 0 0 s := (ha 602 0 0 s rfl).1
  have a6 : N.1 605 0 0 s = M.1 605 0 0 s := (ha 605 0 0 s rfl).1
  have a7 : N.1 606 0 0 s = M.1 606 0 0 s := (ha 606 0 0 s rfl).1
  have a8 : ∀ j, N.2 703 0 s j = M.2 703 0 s j := fun j => (ha 703 0 s j rfl).2
  unfold gtSs
  simp only [a1, a2, a3, a4, a5, a6, a7, a8]
  exact h
def gtS (M : am_M) : Prop := ∀ s, s < 8 → gtSs M s
def gtT (M : am_M) : Prop := ∃ (z : Nat) (c : Nat → Nat), z ≤ 250 ∧ M.1 3 0 0 0 = Int32.ofNat z ∧ M.1 5 0 0 8 = Int32.ofNat z ∧ ∀ j, j < z → M.1 402 0 0 j = Int32.ofNat (c j) ∧ M.1 607 0 0 j = Int32.ofNat (c j) ∧ c j ≤ 255
def gtR (w : Nat) (M : am_M) : Prop := ∀ i, i < 5 → M.1 507 0 0 i = M.1 609 0 0 (i + 2) + (if i + 2 = w then 1 else 0)
def gtK (b : Bool) (M : am_M) : Prop := M.1 4 0 0 8 = bz b ∧ (b = true → ∃ D, WF D ∧ DR M 1 D ∧ RF M 2 D)
theorem gtS.ag {M N : am_M} {S : kS} (h : gtS M) (hk : keeps S M N) (hd : dj S tSh = true) : gtS N := fun s hs => (h s hs).ag (hk.ag hd)
theorem gtT.ag {M N : am_M} {S : kS} (h : gtT M) (hk : keeps S M N) (hd : dj S tTp = true) : gtT N := by
  obtain ⟨z, c, h1, h2, h3, h4⟩ := h
  have ha := hk.ag hd
  exact ⟨z, c, h1, (ha 3 0 0 0 rfl).1.trans h2, (ha 5 0 0 8 rfl).1.trans h3, fun j hj => ⟨(ha 402 0 0 j rfl).1.trans (h4 j hj).1, (ha 607 0 0 j rfl).1.trans (h4 j hj).2.1, (h4 j hj).2.2⟩⟩
theorem gtR.ag {M N : am_M} {S : kS} {w : Nat} (h : gtR w M) (hk : keeps S M N) (hd : dj S tRf = true) : gtR w N := fun i hi => by
  have ha := hk.ag hd
  rw [(ha 507 0 0 i rfl).1, (ha 609 0 0 (i + 2) rfl).1]
  exact h i hi
theorem gtK.ag {M N : am_M} {S : kS} {b : Bool} (h : gtK b M) (hk : keeps S M N) (h4 : dj S tK4 = true) (h1 : dj S (tD 1) = true) (h2 : dj S (tR5 2) = true) : gtK b N := by
  refine ⟨((hk.ag h4) 4 0 0 8 rfl).1.trans h.1, fun hb => ?_⟩
  obtain ⟨D, w, d, r⟩ := h.2 hb
  exact ⟨D, w, d.ag hk h1, r.ag hk h2⟩
def gtD (M : am_M) : Prop := ∃ D, WF D ∧ DR M 0 D ∧ RF M 0 D
def GTw (w : Nat) (b : Bool) (M : am_M) : Prop := gtD M ∧ gtS M ∧ gtT M ∧ gtR w M ∧ gtK b M
def GT (_ : Bool) (b : Bool) (M : am_M) : Prop := GTw 0 b M
theorem GTw.ag {M N : am_M} {S : kS} {w : Nat} {b : Bool} (h : GTw w b M) (hk : keeps S M N) (hd : dj S tAll = true) : GTw w b N := by
  obtain ⟨⟨D, w1, w2, w3⟩, h2, h3, h4, h5⟩ := h
  exact ⟨⟨D, w1, w2.ag hk (djM hd tA_D0), w3.ag hk (djM hd tA_R0)⟩, h2.ag hk (djM hd tA_Sh), h3.ag hk (djM hd tA_Tp), h4.ag hk (djM hd tA_Rf), h5.ag hk (djM hd tA_K4) (djM hd tA_D1) (djM hd tA_R2)⟩
/-! refusals -/
def ref4 (M : am_M) (w : Nat) : am_M := am_si M 507 0 0 (w - 2) (M.1 507 0 0 (w - 2) + 1)
def ref5 (M : am_M) (w : Nat) : am_M := am_si M 609 0 0 w (M.1 609 0 0 w + 1)
theorem ref4_k (M : am_M) (w : Nat) : keeps [(507, some 0, none)] M (ref4 M w) := (keeps.rf _ M).si rfl
theorem ref5_k (M : am_M) (w : Nat) : keeps [(609, some 0, none)] M (ref5 M w) := (keeps.rf _ M).si rfl
theorem gt_ref4 {M : am_M} {w : Nat} {b : Bool} (hw : 2 ≤ w) (h : GTw 0 b M) : GTw w b (ref4 M w) := by
  obtain ⟨⟨D, w1, w2, w3⟩, h2, h3, h4, h5⟩ := h
  have hk := ref4_k M w
  refine ⟨⟨D, w1, w2.ag hk rfl, w3.ag hk rfl⟩, h2.ag hk rfl, h3.ag hk rfl, fun i hi => ?_, h5.ag hk rfl rfl rfl⟩
  have h0 := h4 i hi
  rw [if_neg (show ¬ i + 2 = 0 from by omega), Int32.add_zero] at h0
  unfold ref4
  rw [si_e, si_k (by decide)]
  by_cases hc : i + 2 = w
  · rw [if_pos (show i = w - 2 from by omega), if_pos hc, ← h0, show w - 2 = i from by omega]
  · rw [if_neg (show ¬ i = w - 2 from by omega), if_neg hc, Int32.add_zero]
    exact h0
theorem gt_ref5 {M : am_M} {w : Nat} {b : Bool} (hw : 2 ≤ w) (h : GTw w b M) : GTw 0 b (ref5 M w) := by
  obtain ⟨⟨D, w1, w2, w3⟩, h2, h3, h4, h5⟩ := h
  have hk := ref5_k M w
  refine ⟨⟨D, w1, w2.ag hk rfl, w3.ag hk rfl⟩, h2.ag hk rfl, h3.ag hk rfl, fun i hi => ?_, h5.ag hk rfl rfl rfl⟩
  have h0 := h4 i hi
  rw [if_neg (show ¬ i + 2 = 0 from by omega), Int32.add_zero]
  unfold ref5
  rw [si_e, si_k (by decide), h0]
  by_cases hc : i + 2 = w
  · rw [if_pos hc, if_pos hc, hc]
  · rw [if_neg hc, if_neg hc, Int32.add_zero]
theorem x4_ref2 (M : am_M) : f_X4_refuse M (-2 : Int32) = some ((-2 : Int32), ref4 M 2) := by
  unfold f_X4_refuse
  refine wp_is (wp_let (wp_be (show f_X4_isWithin M ((-2 : Int32) - (-2 : Int32)) ((5 : Int32) - (1 : Int32)) = some 1 from by unfold f_X4_isWithin; rw [if_neg (by decide), if_neg (by decide)]) (wp_neg (by decide) (wp_pos (by decide) (wp_pos (by decide) (wp_let (wp_some ?_)))))))
  rw [show ((-2 : Int32) - (-2 : Int32)).toNatClampNeg = 0 from by decide]
  rfl
theorem x5_ref2 (M : am_M) : f_X5_refuse M 0 (-2 : Int32) = some ((-2 : Int32), ref5 M 2) := by
  unfold f_X5_refuse
  refine wp_is (wp_pos (by decide) (wp_pos (by decide) (wp_let (wp_some ?_))))
  rw [show (-(-2 : Int32)).toNatClampNeg = 2 from by decide]
  rfl
theorem x4_ref3 (M : am_M) : f_X4_refuse M (-3 : Int32) = some ((-3 : Int32), ref4 M 3) := by
  unfold f_X4_refuse
  refine wp_is (wp_let (wp_be (show f_X4_isWithin M ((-2 : Int32) - (-3 : Int32)) ((5 : Int32) - (1 : Int32)) = some 1 from by unfold f_X4_isWithin; rw [if_neg (by decide), if_neg (by decide)]) (wp_neg (by decide) (wp_pos (by decide) (wp_pos (by decide) (wp_let (wp_some ?_)))))))
  rw [show ((-2 : Int32) - (-3 : Int32)).toNatClampNeg = 1 from by decide]
  rfl
theorem x5_ref3 (M : am_M) : f_X5_refuse M 0 (-3 : Int32) = some ((-3 : Int32), ref5 M 3) := by
  unfold f_X5_refuse
  refine wp_is (wp_pos (by decide) (wp_pos (by decide) (wp_let (wp_some ?_))))
  rw [show (-(-3 : Int32)).toNatClampNeg = 3 from by decide]
  rfl
theorem x4_ref4 (M : am_M) : f_X4_refuse M (-4 : Int32) = some ((-4 : Int32), ref4 M 4) := by
  unfold f_X4_refuse
  refine wp_is (wp_let (wp_be (show f_X4_isWithin M ((-2 : Int32) - (-4 : Int32)) ((5 : Int32) - (1 : Int32)) = some 1 from by unfold f_X4_isWithin; rw [if_neg (by decide), if_neg (by decide)]) (wp_neg (by decide) (wp_pos (by decide) (wp_pos (by decide) (wp_let (wp_some ?_)))))))
  rw [show ((-2 : Int32) - (-4 : Int32)).toNatClampNeg = 2 from by decide]
  rfl
theorem x5_ref4 (M : am_M) : f_X5_refuse M 0 (-4 : Int32) = some ((-4 : Int32), ref5 M 4) := by
  unfold f_X5_refuse
  refine wp_is (wp_pos (by decide) (wp_pos (by decide) (wp_let (wp_some ?_))))
  rw [show (-(-4 : Int32)).toNatClampNeg = 4 from by decide]
  rfl
theorem x4_ref5 (M : am_M) : f_X4_refuse M (-5 : Int32) = some ((-5 : Int32), ref4 M 5) := by
  unfold f_X4_refuse
  refine wp_is (wp_let (wp_be (show f_X4_isWithin M ((-2 : Int32) - (-5 : Int32)) ((5 : Int32) - (1 : Int32)) = some 1 from by unfold f_X4_isWithin; rw [if_neg (by decide), if_neg (by decide)]) (wp_neg (by decide) (wp_pos (by decide) (wp_pos (by decide) (wp_let (wp_some ?_)))))))
  rw [show ((-2 : Int32) - (-5 : Int32)).toNatClampNeg = 3 from by decide]
  rfl
theorem x5_ref5 (M : am_M) : f_X5_refuse M 0 (-5 : Int32) = some ((-5 : Int32), ref5 M 5) := by
  unfold f_X5_refuse
  refine wp_is (wp_pos (by decide) (wp_pos (by decide) (wp_let (wp_some ?_))))
  rw [show (-(-5 : Int32)).toNatClampNeg = 5 from by decide]
  rfl
theorem x4_ref6 (M : am_M) : f_X4_refuse M (-6 : Int32) = some ((-6 : Int32), ref4 M 6) := by
  unfold f_X4_refuse
  refine wp_is (wp_let (wp_be (show f_X4_isWithin M ((-2 : Int32) - (-6 : Int32)) ((5 : Int32) - (1 : Int32)) = some 1 from by unfold f_X4_isWithin; rw [if_neg (by decide), if_neg (by decide)]) (wp_neg (by decide) (wp_pos (by decide) (wp_pos (by decide) (wp_let (wp_some ?_)))))))
  rw [show ((-2 : Int32) - (-6 : Int32)).toNatClampNeg = 4 from by decide]
  rfl
theorem x5_ref6 (M : am_M) : f_X5_refuse M 0 (-6 : Int32) = some ((-6 : Int32), ref5 M 6) := by
  unfold f_X5_refuse
  refine wp_is (wp_pos (by decide) (wp_pos (by decide) (wp_let (wp_some ?_))))
  rw [show (-(-6 : Int32)).toNatClampNeg = 6 from by decide]
  rfl
/-! how a call is answered alike -/
theorem gt_q {α : Type} {x : Option (α × am_M)} {g : am_M → Option (α × am_M)} {v : α} {S4 S5 : kS} {M : am_M} {tr b : Bool} (h : GT tr b M) (h4 : wp x (fun y => y.1 = v ∧ keeps S4 M y.2)) (d4 : dj S4 tAll = true) (h5 : ∀ N, keeps S4 M N → wp (g N) (fun z => z.1 = v ∧ keeps S5 N z.2)) (d5 : dj S5 tAll = true) : ∃ y z, x = some y ∧ g y.2 = some z ∧ y.1 = z.1 ∧ GT tr b z.2 := by
  obtain ⟨y, e1, hy, ky⟩ := h4
  obtain ⟨z, e2, hz, kz⟩ := h5 y.2 ky
  exact ⟨y, z, e1, e2, hy.trans hz.symm, GTw.ag (GTw.ag h ky d4) kz d5⟩
theorem gt_r {α : Type} {x : Option (α × am_M)} {g : am_M → Option (α × am_M)} {v : α} {S4 S5 : kS} {M : am_M} {tr b : Bool} {w : Nat} (hw : 2 ≤ w) (h : GT tr b M) (h4 : wp x (fun y => ∃ N, keeps S4 M N ∧ y = (v, ref4 N w))) (d4 : dj S4 tAll = true) (h5 : ∀ N, keeps S4 M N → wp (g (ref4 N w)) (fun z => ∃ N', keeps S5 (ref4 N w) N' ∧ z = (v, ref5 N' w))) (d5 : dj S5 tAll = true) : ∃ y z, x = some y ∧ g y.2 = some z ∧ y.1 = z.1 ∧ GT tr b z.2 := by
  obtain ⟨y, e1, N, ky, rfl⟩ := h4
  obtain ⟨z, e2, N', kz, rfl⟩ := h5 N ky
  exact ⟨_, _, e1, e2, rfl, gt_ref5 hw (GTw.ag (gt_ref4 hw (GTw.ag h ky d4)) kz d5)⟩
theorem gt_r0 {α : Type} {x : Option (α × am_M)} {g : am_M → Option (α × am_M)} {v : α} {M : am_M} {tr b : Bool} {w : Nat} (hw : 2 ≤ w) (h : GT tr b M) (h4 : x = some (v, ref4 M w)) (h5 : ∀ N, g N = some (v, ref5 N w)) : ∃ y z, x = some y ∧ g y.2 = some z ∧ y.1 = z.1 ∧ GT tr b z.2 :=
  ⟨_, _, h4, h5 _, rfl, gt_ref5 hw (gt_ref4 hw h)⟩
theorem f_w (M : am_M) (x : Int32) {y : Int32} {m : Int} (hy : y.toInt = m) : f_X4_isWithin M x y = some (bz (decide (0 ≤ x.toInt ∧ x.toInt ≤ m))) := by
  unfold f_X4_isWithin
  refine wp_is (wp_ti (fun h => wp_some ?_) (fun h => wp_ti (fun h' => wp_some ?_) (fun h' => wp_some ?_)))
  · rw [t0] at h
    rw [bz_n (by omega)]
  · rw [t0] at h
    rw [bz_n (by omega)]
  · rw [t0] at h
    rw [bz_d (by omega)]
theorem f_i (M : am_M) (x : Int32) {a c : Int64} {l m : Int} (ha : a.toInt = l) (hc : c.toInt = m) : f_X5_in M x.toInt64 a c = some (bz (decide (l ≤ x.toInt ∧ x.toInt ≤ m))) := by
  rw [f_in, Int32.toInt_toInt64, ha, hc]
theorem f_sh (M : am_M) (x : Int32) : f_X4_isShelf M x = some (bz (decide (0 ≤ x.toInt ∧ x.toInt ≤ 7))) := by
  unfold f_X4_isShelf
  exact wp_is (wp_be (f_w M x (m := 7) (by decide)) (wp_pos (bz_01 _) (wp_some rfl)))
theorem bz_dn {c : Prop} [Decidable c] (h : c) : ¬ bz (decide c) = 0 := by rw [bz_d h]; decide
theorem i_nat {x : Int32} {m : Nat} (h : 0 ≤ x.toInt ∧ x.toInt ≤ m) : ∃ k, k ≤ m ∧ x = Int32.ofNat k := ⟨x.toInt.toNat, by omega, i_fromT (by omega)⟩
theorem l_32 (x : Nat) : (Int64.ofNat x).toInt32 = Int32.ofNat x := Int64.toInt32_ofNat'
