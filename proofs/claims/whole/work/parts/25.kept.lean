/-- which reference objects there are: number 1 tried, number 2 kept -/
def am_Kst (K : am_K) (tr kp : Bool) : Prop := (5, 0, 0) ∈ am_dom K ∧ (∀ r ∈ am_dom K, r.1 = 5 → r.2.1 = 0 → r = (5, 0, 0)) ∧ (∀ o j, o ≠ 0 → am_opq K o j = .null) ∧
  (tr = true → am_opq K 0 20 = .ref (am_ad K (5, 1, 0)) ∧ (5, 1, 0) ∈ am_dom K) ∧ (tr = false → am_opq K 0 20 = .null ∧ ∀ r ∈ am_dom K, ¬ (am_isM r.1 = true ∧ r.2.1 = 1)) ∧
  (kp = true → am_opq K 0 19 = .ref (am_ad K (5, 2, 0)) ∧ (5, 2, 0) ∈ am_dom K) ∧ (kp = false → am_opq K 0 19 = .null ∧ ∀ r ∈ am_dom K, ¬ (am_isM r.1 = true ∧ r.2.1 = 2))
theorem am_M2_A0 {F : gv_F} {K : am_K} {sz : Nat} {rm : Room} {mi : am_Mi} {post : am_K → Option am_V → am_M → Prop} {mc ms : Nat} (hF : gv_M2 F K sz rm mi post mc ms) : (∀ q, F.2.2.2.1.heap.size ≤ q → F.2.2.2.2.2.2.2.2.2.2 q) ∧ ∀ K1, am_Ex K K1 → (∀ a, F.2.2.2.2.2.2.2.2.2.2 a → am_A K1 a ∨ F.2.2.2.1.heap.size ≤ a) ∧ gv_old F K1 := by
  obtain ⟨f1, f2, f3, f4, f5⟩ := hF
  have key : ∀ K1, am_Ex K K1 → ∀ a, am_A K a → am_A K1 a := fun K1 hE a ⟨r, hr, e⟩ => ⟨r, hE.2.2.2.2 r hr, (hE.2.2.2.1 r (Or.inl hr)).trans e⟩
  refine ⟨fun q h => by rw [f2, ← f3]; exact Or.inr h, fun K1 hE => ⟨fun a ha => ?_, gv_old_of (fun a h1 h2 => ?_)⟩⟩
  · rw [f2] at ha
    exact ha.imp (key K1 hE a) (fun h => by rw [f3]; exact h)
  · rw [f2] at h2
    rcases h2 with h | h
    · exact key K1 hE a h
    · rw [f3] at h1; omega
theorem am_setq_at (K : am_K) (j : Nat) (v : Value) : am_opq (am_setq K j v) 0 j = v := by show (if 0 = 0 ∧ j = j then v else am_opq K 0 j) = v; exact if_pos ⟨rfl, rfl⟩
theorem am_setq_ne {K : am_K} {j i : Nat} {v : Value} (h : i ≠ j) (o : Nat) : am_opq (am_setq K j v) o i = am_opq K o i := by show (if o = 0 ∧ i = j then v else am_opq K o i) = _; exact if_neg (fun z => h z.2)
theorem am_Kst_new {K : am_K} {ad1 : am_L → Nat} (d j : Nat) (hd : (d = 1 ∧ j = 20) ∨ (d = 2 ∧ j = 19)) {tr kp : Bool} (hK : am_ok K) (h : am_Kst K tr kp) (hnd : ∀ r ∈ am_dom K, ¬ (am_isM r.1 = true ∧ r.2.1 = d)) : (5, d, 0) ∈ am_dom (am_extN K am_dom_X5_init d ad1) ∧ (∀ r ∈ am_dom (am_extN K am_dom_X5_init d ad1), r.1 = 5 → r.2.1 = 0 → r = (5, 0, 0)) ∧ am_Kst (am_setq (am_extN K am_dom_X5_init d ad1) j (.ref (am_ad (am_extN K am_dom_X5_init d ad1) (5, d, 0)))) (if d = 1 then true else tr) (if d = 2 then true else kp) := by
  obtain ⟨h1, h2, h3, h4, h5, h6, h7⟩ := h
  have hE := am_Ex_extM (ad1 := ad1) hK hnd
  have hmem : (5, d, 0) ∈ am_dom (am_extN K am_dom_X5_init d ad1) := List.mem_append_right _ (List.mem_map.mpr ⟨(5, 0, 0), by decide +kernel, rfl⟩)
  have hd0 : d ≠ 0 := by omega
  have h50 : ∀ r ∈ am_dom (am_extN K am_dom_X5_init d ad1), r.1 = 5 → r.2.1 = 0 → r = (5, 0, 0) := by
    intro r hr e1 e2
    rcases List.mem_append.mp hr with h | h
    · exact h2 r h e1 e2
    · obtain ⟨p, hp, rfl⟩ := List.mem_map.mp h
      exact absurd e2 hd0
  have hnew : ∀ d2, d2 ≠ d → (∀ r ∈ am_dom K, ¬ (am_isM r.1 = true ∧ r.2.1 = d2)) → ∀ r ∈ am_dom (am_extN K am_dom_X5_init d ad1), ¬ (am_isM r.1 = true ∧ r.2.1 = d2) := by
    intro d2 hd2 hh r hr
    rcases List.mem_append.mp hr with h | h
    · exact hh r h
    · obtain ⟨p, hp, rfl⟩ := List.mem_map.mp h
      exact fun z => hd2 z.2.symm
  refine ⟨hmem, h50, List.mem_append_left _ h1, h50, fun o i ho => (show (if o = 0 ∧ i = j then _ else am_opq K o i) = _ from (if_neg (fun z => ho z.1)).trans (h3 o i ho)), ?_⟩
  rcases hd with ⟨rfl, rfl⟩ | ⟨rfl, rfl⟩
  · refine ⟨fun _ => ⟨am_setq_at _ _ _, hmem⟩, fun hf => (by cases hf), fun hk => ?_, fun hk => ?_⟩
    · have := h6 hk
      exact ⟨(am_setq_ne (by decide) 0).trans (this.1.trans (congrArg Value.ref (hE.2.2.2.1 _ (Or.inl this.2)).symm)), List.mem_append_left _ this.2⟩
    · have := h7 hk
      exact ⟨(am_setq_ne (by decide) 0).trans this.1, hnew 2 (by decide) this.2⟩
  · refine ⟨fun hk => ?_, fun hk => ?_, fun _ => ⟨am_setq_at _ _ _, hmem⟩, fun hf => (by cases hf)⟩
    · have := h4 hk
      exact ⟨(am_setq_ne (by decide) 0).trans (this.1.trans (congrArg Value.ref (hE.2.2.2.1 _ (Or.inl this.2)).symm)), List.mem_append_left _ this.2⟩
    · have := h5 hk
      exact ⟨(am_setq_ne (by decide) 0).trans this.1, hnew 1 (by decide) this.2⟩
def am_rm2 : Room := { frames := 16, cells := 187, slots := 4694, locals := 960 }
def am_cond (b : Bool) (M : am_M) (d : Nat) : am_M := if b = true then M else am_rst M d

theorem k_X5_fresh {F : gv_F} {K0 K : am_K} {sz cells slots : Nat} {M M1 : am_M} {kp : Bool} (hF : gv_M2 F K0 sz am_rm2 m_X5_fresh (fun K1 r N => r = some (.inr (.inr (5, 1, 0))) ∧ N = M1 ∧ am_Kst K1 true kp) 187 4694) (hE : am_Ex K0 K) (hc : cells ≤ 187) (hsl : slots ≤ 4694) (hs : am_Kst K true kp) (h : f_X5_takeFrom M 1 0 = some M1) : gv F m_X5_fresh K cells slots 18 [(0, .inr (.inr (5, 0, 0)))] [] M := by
  have hR := hF.1
  have hold := (((am_M2_A0 hF).2 K hE).2)
  refine gv_aload_n dX5_fresh_18 rfl ?_
  refine gv_getO (j := 20) (d := 1) (by decide) rfl dX5_fresh_19 fl_RX5_367 (hs.2.2.2.1 rfl).1 (hs.2.2.2.1 rfl).2 ?_
  refine gv_aload_n dX5_fresh_22 rfl ?_
  refine gv_callVv 1 (as := [.inr (.inr (5, 0, 0))]) hold (by rw [hR]; exact ⟨by decide, by decide, hc, hsl⟩) dX5_fresh_23 cv_RX5_248 cb_X5_takeFrom sh_5 rfl hk_5 rfl rfl (Nat.le_of_ble_eq_true rfl) (c_X5_takeFrom (d := 0) h) ?_
  refine gv_aload_n dX5_fresh_26 rfl ?_
  refine gv_getO (j := 20) (d := 1) (by decide) rfl dX5_fresh_27 fl_RX5_367 (hs.2.2.2.1 rfl).1 (hs.2.2.2.1 rfl).2 ?_
  exact gv_ret2r hF hE hc hsl dX5_fresh_30 rfl ⟨rfl, rfl, hs⟩
theorem c_X5_fresh {K : am_K} {M M1 : am_M} {tr kp : Bool} (hs : am_Kst K tr kp) (h : f_X5_takeFrom (am_cond tr M 1) 1 0 = some M1) : am_Met2 K am_rm2 m_X5_fresh [.inr (.inr (5, 0, 0))] M (fun K1 r N => r = some (.inr (.inr (5, 1, 0))) ∧ N = M1 ∧ am_Kst K1 true kp) 187 4694 := by
  refine am_Met2_of cb_X5_fresh (Nat.le_of_ble_eq_true rfl) (fun F sz hF => ?_)
  show gv F m_X5_fresh K 0 0 0 [(0, .inr (.inr (5, 0, 0)))] [] M
  have hR := hF.1
  refine gv_aload_n dX5_fresh_0 rfl ?_
  cases tr with
  | true => exact gv_nnT (j := 20) 18 (by decide) rfl dX5_fresh_1 dX5_fresh_4 rfl fl_RX5_367 (hs.2.2.2.1 rfl).1 (k_X5_fresh hF (am_Ex.rf K) (Nat.zero_le _) (Nat.zero_le _) hs ((congrArg (fun z => f_X5_takeFrom z 1 0) (show M = am_cond true M 1 from (if_pos rfl).symm)).trans h))
  | false =>
    refine gv_nnF (j := 20) (by decide) rfl dX5_fresh_1 dX5_fresh_4 fl_RX5_367 (hs.2.2.2.2.1 rfl).1 ?_
    intro H locs la hK
    revert H locs la
    have hnd := (hs.2.2.2.2.1 rfl).2
    suffices hg : am_ok K → gv F m_X5_fresh K 0 0 7 [(0, .inr (.inr (5, 0, 0)))] [] M from fun H locs la hI hP hS hA hl hlk hsk => hg hK H locs la hK hI hP hS hA hl hlk hsk
    intro hK
    refine gv_aload_n dX5_fresh_7 rfl ?_
    refine gv_new5 (d := 1) (by rw [hR]; exact ⟨by decide, by decide, by decide, by decide⟩) hF.2.2.2.1 dX5_fresh_8 dX5_fresh_11 dX5_fresh_12 cl_5_8 ml_5_371 hnd (fun j => hs.2.2.1 1 j (by decide)) (am_M2_A0 hF).1 ((am_M2_A0 hF).2 K (am_Ex.rf K)).1 (Nat.le_of_ble_eq_true rfl) (fun ad1 hE => ?_)
    obtain ⟨n1, n2, n3⟩ := am_Kst_new (ad1 := ad1) 1 20 (Or.inl ⟨rfl, rfl⟩) hK hs hnd
    refine gv_putO (j := 20) (d := 1) (by decide) rfl dX5_fresh_15 fl_RX5_367 fp_X5_20 (fun _ => rfl) (fun _ => rfl) n2 ?_
    exact k_X5_fresh hF (hE.trans (am_setq_Ex _ _ _)) (by decide) (by decide) n3 ((congrArg (fun z => f_X5_takeFrom z 1 0) (show am_rst M 1 = am_cond false M 1 from (if_neg (by decide)).symm)).trans h)
theorem k_X5_image {F : gv_F} {K0 K : am_K} {sz cells slots : Nat} {M M1 : am_M} {tr : Bool} (hF : gv_M2 F K0 sz am_rm2 m_X5_image (fun K1 r N => r = some (.inl 1) ∧ N = M1 ∧ am_Kst K1 tr true) 187 4694) (hE : am_Ex K0 K) (hc : cells ≤ 187) (hsl : slots ≤ 4694) (hs : am_Kst K tr true) (h : f_X5_takeFrom M 2 0 = some M1) : gv F m_X5_image K cells slots 18 [(0, .inr (.inr (5, 0, 0)))] [] M := by
  have hR := hF.1
  have hold := (((am_M2_A0 hF).2 K hE).2)
  refine gv_aload_n dX5_image_18 rfl ?_
  refine gv_getO (j := 19) (d := 2) (by decide) rfl dX5_image_19 fl_RX5_376 (hs.2.2.2.2.2.1 rfl).1 (hs.2.2.2.2.2.1 rfl).2 ?_
  refine gv_aload_n dX5_image_22 rfl ?_
  refine gv_callVv 1 (as := [.inr (.inr (5, 0, 0))]) hold (by rw [hR]; exact ⟨by decide, by decide, hc, hsl⟩) dX5_image_23 cv_RX5_248 cb_X5_takeFrom sh_5 rfl hk_5 rfl rfl (Nat.le_of_ble_eq_true rfl) (c_X5_takeFrom (d := 0) h) ?_
  refine gv_iconst dX5_image_26 ic_1 ?_
  exact gv_ret2 hF hE hc hsl dX5_image_27 rfl ⟨rfl, rfl, hs⟩
theorem c_X5_image {K : am_K} {M M1 : am_M} {tr kp : Bool} (hs : am_Kst K tr kp) (h : f_X5_takeFrom (am_cond kp M 2) 2 0 = some M1) : am_Met2 K am_rm2 m_X5_image [.inr (.inr (5, 0, 0))] M (fun K1 r N => r = some (.inl 1) ∧ N = M1 ∧ am_Kst K1 tr true) 187 4694 := by
  refine am_Met2_of cb_X5_image (Nat.le_of_ble_eq_true rfl) (fun F sz hF => ?_)
  show gv F m_X5_image K 0 0 0 [(0, .inr (.inr (5, 0, 0)))] [] M
  have hR := hF.1
  refine gv_aload_n dX5_image_0 rfl ?_
  cases kp with
  | true => exact gv_nnT (j := 19) 18 (by decide) rfl dX5_image_1 dX5_image_4 rfl fl_RX5_376 (hs.2.2.2.2.2.1 rfl).1 (k_X5_image hF (am_Ex.rf K) (Nat.zero_le _) (Nat.zero_le _) hs ((congrArg (fun z => f_X5_takeFrom z 2 0) (show M = am_cond true M 2 from (if_pos rfl).symm)).trans h))
  | false =>
    refine gv_nnF (j := 19) (by decide) rfl dX5_image_1 dX5_image_4 fl_RX5_376 (hs.2.2.2.2.2.2 rfl).1 ?_
    intro H locs la hK
    revert H locs la
    have hnd := (hs.2.2.2.2.2.2 rfl).2
    suffices hg : am_ok K → gv F m_X5_image K 0 0 7 [(0, .inr (.inr (5, 0, 0)))] [] M from fun H locs la hI hP hS hA hl hlk hsk => hg hK H locs la hK hI hP hS hA hl hlk hsk
    intro hK
    refine gv_aload_n dX5_image_7 rfl ?_
    refine gv_new5 (d := 2) (by rw [hR]; exact ⟨by decide, by decide, by decide, by decide⟩) hF.2.2.2.1 dX5_image_8 dX5_image_11 dX5_image_12 cl_5_8 ml_5_371 hnd (fun j => hs.2.2.1 2 j (by decide)) (am_M2_A0 hF).1 ((am_M2_A0 hF).2 K (am_Ex.rf K)).1 (Nat.le_of_ble_eq_true rfl) (fun ad1 hE => ?_)
    obtain ⟨n1, n2, n3⟩ := am_Kst_new (ad1 := ad1) 2 19 (Or.inr ⟨rfl, rfl⟩) hK hs hnd
    refine gv_putO (j := 19) (d := 2) (by decide) rfl dX5_image_15 fl_RX5_376 fp_X5_19 (fun _ => rfl) (fun _ => rfl) n2 ?_
    exact k_X5_image hF (hE.trans (am_setq_Ex _ _ _)) (by decide) (by decide) n3 ((congrArg (fun z => f_X5_takeFrom z 2 0) (show am_rst M 2 = am_cond false M 2 from (if_neg (by decide)).symm)).trans h)
/-- back(): what is kept comes back, or it is refused -/
def f_X5_back (kp : Bool) (M : am_M) : Option (Int32 × am_M) := if kp = true then (f_X5_takeFrom M 0 2).bind (fun M1 => some (1, M1)) else f_X5_refuse M 0 (-5)
theorem c_X5_back {K : am_K} {M : am_M} {tr kp : Bool} {y : Int32 × am_M} (hs : am_Kst K tr kp) (h : f_X5_back kp M = some y) : am_Met2 K am_rm2 m_X5_back [.inr (.inr (5, 0, 0))] M (fun K1 r N => r = some (.inl y.1) ∧ N = y.2 ∧ am_Kst K1 tr kp) 187 4694 := by
  refine am_Met2_of cb_X5_back (Nat.le_of_ble_eq_true rfl) (fun F sz hF => ?_)
  show gv F m_X5_back K 0 0 0 [(0, .inr (.inr (5, 0, 0)))] [] M
  have hR := hF.1
  have hold := (((am_M2_A0 hF).2 K (am_Ex.rf K)).2)
  unfold f_X5_back at h
  refine gv_aload_n dX5_back_0 rfl ?_
  cases kp with
  | true =>
    replace h := am_ifT rfl h
    obtain ⟨M1, h1, h⟩ := am_bnd h
    obtain rfl := Option.some.inj h
    refine gv_nnT (j := 19) 14 (by decide) rfl dX5_back_1 dX5_back_4 rfl fl_RX5_376 (hs.2.2.2.2.2.1 rfl).1 ?_
    refine gv_aload_n dX5_back_14 rfl ?_
    refine gv_aload_n dX5_back_15 rfl ?_
    refine gv_getO (j := 19) (d := 2) (by decide) rfl dX5_back_16 fl_RX5_376 (hs.2.2.2.2.2.1 rfl).1 (hs.2.2.2.2.2.1 rfl).2 ?_
    refine gv_callVv 1 (as := [.inr (.inr (5, 2, 0))]) hold (by rw [hR]; exact ⟨by decide, by decide, by decide, by decide⟩) dX5_back_19 cv_RX5_248 cb_X5_takeFrom sh_5 rfl hk_5 rfl rfl (Nat.le_of_ble_eq_true rfl) (c_X5_takeFrom (d := 0) h1) ?_
    refine gv_iconst dX5_back_22 ic_1 ?_
    exact gv_ret2 hF (am_Ex.rf K) (by decide) (by decide) dX5_back_23 rfl ⟨rfl, rfl, hs⟩
  | false =>
    replace h := am_ifF (by decide) h
    refine gv_nnF (j := 19) (by decide) rfl dX5_back_1 dX5_back_4 fl_RX5_376 (hs.2.2.2.2.2.2 rfl).1 ?_
    refine gv_aload_n dX5_back_7 rfl ?_
    refine gv_bipush dX5_back_8 bp_m5 ?_
    refine gv_callVi 0 (as := [.inl (-5)]) hold (by rw [hR]; exact ⟨by decide, by decide, by decide, by decide⟩) dX5_back_10 cv_RX5_103 cb_X5_refuse sh_5 rfl hk_5 rfl rfl (Nat.le_of_ble_eq_true rfl) (c_X5_refuse (d := 0) h) ?_
    exact gv_ret2 hF (am_Ex.rf K) (by decide) (by decide) dX5_back_13 rfl ⟨rfl, rfl, hs⟩
/-- drum(), behind fresh() -/
def f_X5_drumB (M : am_M) : Option (Int32 × am_M) := (f_X5_readAll M 0).bind (fun r => am_let (am_si r.2 5 0 0 8 0) (fun M2 => if r.1 = 0 then (f_X5_takeFrom M2 0 1).bind (fun M3 => (f_X5_refuse M3 0 (-2)).bind (fun x => some (-20 - x.2.1 5 0 0 25, x.2))) else some (M2.1 5 0 0 27, M2)))
def f_X5_drum (tr : Bool) (M : am_M) : Option (Int32 × am_M) := (f_X5_takeFrom (am_cond tr M 1) 1 0).bind f_X5_drumB
theorem c_X5_drum {K : am_K} {M : am_M} {tr kp : Bool} {y : Int32 × am_M} (hs : am_Kst K tr kp) (h : f_X5_drum tr M = some y) : am_Met2 K { am_rm2 with frames := 20, locals := 1200 } m_X5_drum [.inr (.inr (5, 0, 0))] M (fun K1 r N => r = some (.inl y.1) ∧ N = y.2 ∧ am_Kst K1 true kp) 187 4694 := by
  refine am_Met2_of cb_X5_drum (Nat.le_of_ble_eq_true rfl) (fun F sz hF => ?_)
  show gv F m_X5_drum K 0 0 0 [(0, .inr (.inr (5, 0, 0)))] [] M
  have hR := hF.1
  obtain ⟨M1, h1, ha⟩ := am_bnd h
  clear h
  unfold f_X5_drumB at ha
  obtain ⟨r, h2, hb⟩ := am_bnd ha
  clear ha
  obtain ⟨M2, e2, hc⟩ := am_letE hb
  clear hb
  refine gv_aload_n dX5_drum_0 rfl ?_
  refine gv_callM (as := []) (((am_M2_A0 hF).2 K (am_Ex.rf K)).2) hF.2.2.2.1 (by rw [hR]; exact ⟨rfl, rfl, by decide, by decide⟩) (by rw [hR]; exact ⟨by decide, by decide⟩) (am_M2_A0 hF).1 ((am_M2_A0 hF).2 K (am_Ex.rf K)).1 dX5_drum_1 cv_RX5_241 cb_X5_fresh sh_5 rfl hk_5 rfl rfl (Nat.le_of_ble_eq_true rfl) (c_X5_fresh hs h1) (fun K1 q N hE hq => ?_)
  obtain ⟨rfl, rfl, hs1⟩ := hq
  have hold := (((am_M2_A0 hF).2 K1 hE).2)
  show gv F m_X5_drum K1 (0 + 187) (0 + 4694) 4 [(0, .inr (.inr (5, 0, 0)))] [.inr (.inr (5, 1, 0))] N
  refine gv_astore_n (ls' := [(0, .inr (.inr (5, 0, 0))), (1, .inr (.inr (5, 1, 0)))]) dX5_drum_4 (Nat.le_of_ble_eq_true rfl) rfl ?_
  refine gv_aload_n dX5_drum_5 rfl ?_
  refine gv_callVi 7 (as := []) hold (by rw [hR]; exact ⟨by decide, by decide, by decide, by decide⟩) dX5_drum_6 cv_RX5_245 cb_X5_readAll sh_5 rfl hk_5 rfl rfl (Nat.le_of_ble_eq_true rfl) (c_X5_readAll (d := 0) h2) ?_
  refine gv_istore_n (ls' := [(0, .inr (.inr (5, 0, 0))), (1, .inr (.inr (5, 1, 0))), (2, .inl r.1)]) dX5_drum_9 (Nat.le_of_ble_eq_true rfl) rfl ?_
  refine gv_aload_n dX5_drum_10 rfl ?_
  refine gv_iconst dX5_drum_11 ic_0 ?_
  refine gv_putI dX5_drum_12 fl_RX5_159 fp_X5_8 sh_5 rfl rfl rfl hk_5 ?_
  refine gv_mem e2 ?_
  refine gv_iload_n dX5_drum_15 rfl ?_
  refine gv_if_ne 39 dX5_drum_16 rfl (fun b => ?_) (fun b => ?_)
  · replace hc := am_ifF b hc
    obtain rfl := Option.some.inj hc
    refine gv_aload_n dX5_drum_39 rfl ?_
    refine gv_getI dX5_drum_40 fl_RX5_235 sh_5 rfl hk_5 ?_
    exact gv_ret2 hF hE (by decide) (by decide) dX5_drum_43 rfl ⟨rfl, rfl, hs1⟩
  · replace hc := am_ifT b hc
    obtain ⟨M3, h3, hc⟩ := am_bnd hc
    obtain ⟨x, h4, hc⟩ := am_bnd hc
    obtain rfl := Option.some.inj hc
    refine gv_aload_n dX5_drum_19 rfl ?_
    refine gv_aload_n dX5_drum_20 rfl ?_
    refine gv_callVv 1 (as := [.inr (.inr (5, 1, 0))]) hold (by rw [hR]; exact ⟨by decide, by decide, by decide, by decide⟩) dX5_drum_21 cv_RX5_248 cb_X5_takeFrom sh_5 rfl hk_5 rfl rfl (Nat.le_of_ble_eq_true rfl) (c_X5_takeFrom (d := 0) h3) ?_
    refine gv_aload_n dX5_drum_24 rfl ?_
    refine gv_bipush dX5_drum_25 bp_m2 ?_
    refine gv_callVi 0 (as := [.inl (-2)]) hold (by rw [hR]; exact ⟨by decide, by decide, by decide, by decide⟩) dX5_drum_27 cv_RX5_103 cb_X5_refuse sh_5 rfl hk_5 rfl rfl (Nat.le_of_ble_eq_true rfl) (c_X5_refuse (d := 0) h4) ?_
    refine gv_pop dX5_drum_30 rfl ?_
    refine gv_bipush dX5_drum_31 bp_m20 ?_
    refine gv_aload_n dX5_drum_33 rfl ?_
    refine gv_getI dX5_drum_34 fl_RX5_182 sh_5 rfl hk_5 ?_
    refine gv_isub dX5_drum_37 ?_
    exact gv_ret2 hF hE (by decide) (by decide) dX5_drum_38 rfl ⟨rfl, rfl, hs1⟩
