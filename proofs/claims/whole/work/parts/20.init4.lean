def am_dom_X4_init : List am_L := [(203, 0, 0), (204, 0, 0), (205, 0, 0), (208, 0, 0), (210, 0, 0), (211, 0, 0), (212, 0, 0), (1, 0, 0), (203, 1, 0), (204, 1, 0), (205, 1, 0), (208, 1, 0), (210, 1, 0), (211, 1, 0), (212, 1, 0), (1, 1, 0), (203, 2, 0), (204, 2, 0), (205, 2, 0), (208, 2, 0), (210, 2, 0), (211, 2, 0), (212, 2, 0), (1, 2, 0), (102, 0, 0), (103, 0, 0), (104, 0, 0), (105, 0, 0), (106, 0, 0), (107, 0, 0), (0, 0, 0), (402, 0, 0), (3, 0, 0), (506, 0, 0), (507, 0, 0), (303, 0, 0), (2, 0, 0), (303, 1, 0), (2, 1, 0), (303, 2, 0), (2, 2, 0), (303, 3, 0), (2, 3, 0), (303, 4, 0), (2, 4, 0), (303, 5, 0), (2, 5, 0), (303, 6, 0), (2, 6, 0), (303, 7, 0), (2, 7, 0), (505, 0, 0), (4, 0, 0)]
set_option maxHeartbeats 16000000 in
set_option maxRecDepth 100000 in
theorem c_X4_init (l : Launch) (D : va_G) (cA : Nat → ClassId) (h0 sz : Nat) : Met l m_X4_init.2.1 (am_tw m_X4_init) { frames := 2, cells := 52, slots := 1569, locals := 100 } (cn_Pc l D cA 4 h0 sz [.null, .null, .null, .null, .null, .null, .null, .null, .int 0]) (cn_Qc l D cA 4 h0 sz [.null, .null, .null, .null, .null, .null, .null, .null, .int 0] am_dom_X4_init) 52 1569 (va_A [(h0, .inr (4, [.null, .null, .null, .null, .null, .null, .null, .null, .int 0]))] sz) := by
  refine Met.ofW (cc := cX4_init) (maxL := 2) (ret := none) cb_X4_init.2.2.2.2.1 rfl ?_
  intro p e s m args below meth c s₁ B hml hv
  obtain ⟨rfl, hsz, hP, hK, hD0, hFw⟩ := hv
  unfold cn_Qc
  have hx := B.exec
  have hb := B.bytes
  have hr := B.returns
  have hts0 := atoms_spec (ws := am_tw m_X4_init) B.pre
  have hts : ∀ w ∈ am_T, w.before #[Value.ref h0] s = true := fun w hw => hts0 w (List.mem_cons_of_mem _ hw)
  have hown : s.vm.findClass RX4 = some m.cls := findClass_of_methodNamed B.named
  have hlocks := B.notSynchronized
  have hin : meth.name = "<init>" := (name_of_methodNamed B.named B.method).1
  subst hsz
  have hD := hD0.self (sz := s.heap.size)
  generalize hAe : va_A [(h0, .inr (4, [.null, .null, .null, .null, .null, .null, .null, .null, .int 0]))] s.heap.size = A at hD ⊢
  have hA : ∀ q : Nat, s.heap.size ≤ q → A q := fun q h => by rw [← hAe]; exact Or.inr h
  have hS : va_S A s.heap s.heap [] := va_S.rf
  obtain ⟨K0, hKe⟩ : ∃ K, K = am_mk l D cA (fun _ => 0) [] := ⟨_, rfl⟩
  have hdm : am_dom K0 = [] := by rw [hKe]; rfl
  have ed : am_D K0 = D := by rw [hKe]; rfl
  have ec : am_cA K0 = cA := by rw [hKe]; rfl
  have el : am_l K0 = l := by rw [hKe]; rfl
  have eo : am_opq K0 = fun _ _ => .null := by rw [hKe]; rfl
  have hK : va_K (am_D K0) vwCl (am_tys K0) s := by rw [hKe]; exact hK
  have hw0 : am_ws K0 am_M0 = [] := by unfold am_ws; rw [hdm]; rfl
  have hP : va_P (am_D K0) vwCl (am_ws K0 am_M0 ++ [(h0, .inr (4, [.null, .null, .null, .null, .null, .null, .null, .null, .int 0]))]) s.heap := by rw [hw0, ed]; exact hP
  have hD : va_D A (am_ws K0 am_M0 ++ [(h0, .inr (4, [.null, .null, .null, .null, .null, .null, .null, .null, .int 0]))]) := by rw [hw0]; exact hD
  have hl := lv_entry ([.ref h0]) (n := 2) (Nat.le_of_ble_eq_true rfl)
  rw [lg_entry_eq]
  generalize (lg_sl ([.ref h0]) ++ List.replicate (2 - (lg_sl ([.ref h0])).length) Slot.unset).toArray = ls at hl ⊢
  have hl : lv_has ls 2 [(0, .ref h0)] := hl
  refine lv_aload_n hx hb dX4_init_0 rfl (lv_at hl 0 rfl) ?_
  refine W.objInit hx hb hown (hts (.methodLink RX4 3 objectInit) (am_Tt 19 (by decide +kernel) rfl)) (hts _ cn_oI) (hts _ cn_oC) rfl (by rw [hml]; exact hl.1) rfl dX4_init_1 (Nat.le_of_ble_eq_true rfl) (Nat.le_of_ble_eq_true rfl) ?_
  refine W.eq (g2 := F0 m 4 ls []) rfl ?_
  refine lv_aload_n hx hb dX4_init_4 rfl (lv_at hl 0 rfl) ?_
  refine cn_objN (K := K0) (M := am_M0) (mi := m_X4_init) (mi' := m_X1_init) (host := "AlwaysAhead") (rm := { frames := 1, cells := 7, slots := 48, locals := 60 }) (ci := 1) (N := 14) (mc := 7) (ms := 48) (d := 0) (C := RX1) (T := TX1) (ty0 := tyX1) (df := [.int 0, .int 0, .int 0, .null, .null, .null, .int 0, .int 0, .null, .int 0, .null, .null, .null, .int 0]) (NL := am_dom_X1_init) hx hb (hml.trans hl.1.symm) hts hown hK hFw dX4_init_5 dX4_init_8 dX4_init_9 fi_X1 tyX1_ok rfl (am_Tt 22 (by decide +kernel) rfl) (am_Tt 23 (by decide +kernel) rfl) (am_Tt 2 (by decide +kernel) rfl) (by decide +kernel) hFw.2.2.2.2.1 (am_Tt 25 (by decide +kernel) rfl) rfl rfl cb_X1_init (fun h0 sz => by rw [ed, ec]; exact c_X1_init l D cA h0 sz) (by decide +kernel) (Nat.le_of_ble_eq_true rfl) (Nat.le_of_ble_eq_true rfl) (Nat.le_of_ble_eq_true rfl) (by decide +kernel) (by decide +kernel) (by rw [eo]; exact fun _ => rfl) (fun _ _ _ => rfl) (fun _ _ _ => rfl) (by rw [hdm]; decide +kernel) hP hD hS hA (fun q ad1 H locs hq hP hD hS => ?_)
  subst hq
  have hP : va_P (am_D (am_extN K0 am_dom_X1_init 0 ad1)) vwCl _ H := hP
  generalize hK1 : am_extN K0 am_dom_X1_init 0 ad1 = K1 at hP hD
  have hdm : am_dom K1 = [(203, 0, 0), (204, 0, 0), (205, 0, 0), (208, 0, 0), (210, 0, 0), (211, 0, 0), (212, 0, 0), (1, 0, 0)] := by rw [← hK1]; show am_dom K0 ++ am_dom_X1_init.map (am_ren 0) = _; rw [hdm]; decide +kernel
  have ea1 : am_ad K1 = fun r => if r ∈ am_dom_X1_init.map (am_ren 0) then ad1 (r.1, 0, r.2.2) else am_ad K0 r := by rw [← hK1]; rfl
  have hK : va_K (am_D K1) vwCl (am_tys K1) s := by rw [← hK1]; exact hK
  have ed : am_D K1 = D := by rw [← hK1]; exact ed
  have ec : am_cA K1 = cA := by rw [← hK1]; exact ec
  have el : am_l K1 = l := by rw [← hK1]; exact el
  have eo : am_opq K1 = fun _ _ => .null := by rw [← hK1]; exact eo
  refine cn_put (K := K1) (M := am_M0) (own := RX4) (h0 := h0) (ex2 := []) (v := .ref (ad1 (1, 0, 0))) hx hb hts hown hin hK fi_X4 tyX4 tyX4_ok nmX4 rfl (by decide) (am_Tt 186 (by decide +kernel) rfl) rfl rfl (tyX4_ok 0 (by decide)) rfl rfl (Nat.le_of_ble_eq_true rfl) dX4_init_12 hP hD hS (fun H locs hP hD hS => ?_)
  have hP : va_P (am_D K1) vwCl (am_ws K1 am_M0 ++ [(h0, .inr (4, [.ref (ad1 (1, 0, 0)), .null, .null, .null, .null, .null, .null, .null, .int 0]))]) H := hP
  have hD : va_D A (am_ws K1 am_M0 ++ [(h0, .inr (4, [.ref (ad1 (1, 0, 0)), .null, .null, .null, .null, .null, .null, .null, .int 0]))]) := hD
  refine lv_aload_n hx hb dX4_init_15 rfl (lv_at hl 0 rfl) ?_
  refine cn_objN (K := K1) (M := am_M0) (mi := m_X4_init) (mi' := m_X1_init) (host := "AlwaysAhead") (rm := { frames := 1, cells := 7, slots := 48, locals := 60 }) (ci := 1) (N := 14) (mc := 7) (ms := 48) (d := 1) (C := RX1) (T := TX1) (ty0 := tyX1) (df := [.int 0, .int 0, .int 0, .null, .null, .null, .int 0, .int 0, .null, .int 0, .null, .null, .null, .int 0]) (NL := am_dom_X1_init) hx hb (hml.trans hl.1.symm) hts hown hK hFw dX4_init_16 dX4_init_19 dX4_init_20 fi_X1 tyX1_ok rfl (am_Tt 22 (by decide +kernel) rfl) (am_Tt 23 (by decide +kernel) rfl) (am_Tt 2 (by decide +kernel) rfl) (by decide +kernel) hFw.2.2.2.2.1 (am_Tt 25 (by decide +kernel) rfl) rfl rfl cb_X1_init (fun h0 sz => by rw [ed, ec]; exact c_X1_init l D cA h0 sz) (by decide +kernel) (Nat.le_of_ble_eq_true rfl) (Nat.le_of_ble_eq_true rfl) (Nat.le_of_ble_eq_true rfl) (by decide +kernel) (by decide +kernel) (by rw [eo]; exact fun _ => rfl) (fun _ _ _ => rfl) (fun _ _ _ => rfl) (by rw [hdm]; decide +kernel) hP hD hS hA (fun q ad2 H locs hq hP hD hS => ?_)
  subst hq
  have hP : va_P (am_D (am_extN K1 am_dom_X1_init 1 ad2)) vwCl _ H := hP
  generalize hK2 : am_extN K1 am_dom_X1_init 1 ad2 = K2 at hP hD
  have hdm : am_dom K2 = [(203, 0, 0), (204, 0, 0), (205, 0, 0), (208, 0, 0), (210, 0, 0), (211, 0, 0), (212, 0, 0), (1, 0, 0), (203, 1, 0), (204, 1, 0), (205, 1, 0), (208, 1, 0), (210, 1, 0), (211, 1, 0), (212, 1, 0), (1, 1, 0)] := by rw [← hK2]; show am_dom K1 ++ am_dom_X1_init.map (am_ren 1) = _; rw [hdm]; decide +kernel
  have ea2 : am_ad K2 = fun r => if r ∈ am_dom_X1_init.map (am_ren 1) then ad2 (r.1, 0, r.2.2) else am_ad K1 r := by rw [← hK2]; rfl
  have hK : va_K (am_D K2) vwCl (am_tys K2) s := by rw [← hK2]; exact hK
  have ed : am_D K2 = D := by rw [← hK2]; exact ed
  have ec : am_cA K2 = cA := by rw [← hK2]; exact ec
  have el : am_l K2 = l := by rw [← hK2]; exact el
  have eo : am_opq K2 = fun _ _ => .null := by rw [← hK2]; exact eo
  refine cn_put (K := K2) (M := am_M0) (own := RX4) (h0 := h0) (ex2 := []) (v := .ref (ad2 (1, 0, 0))) hx hb hts hown hin hK fi_X4 tyX4 tyX4_ok nmX4 rfl (by decide) (am_Tt 187 (by decide +kernel) rfl) rfl rfl (tyX4_ok 1 (by decide)) rfl rfl (Nat.le_of_ble_eq_true rfl) dX4_init_23 hP hD hS (fun H locs hP hD hS => ?_)
  have hP : va_P (am_D K2) vwCl (am_ws K2 am_M0 ++ [(h0, .inr (4, [.ref (ad1 (1, 0, 0)), .ref (ad2 (1, 0, 0)), .null, .null, .null, .null, .null, .null, .int 0]))]) H := hP
  have hD : va_D A (am_ws K2 am_M0 ++ [(h0, .inr (4, [.ref (ad1 (1, 0, 0)), .ref (ad2 (1, 0, 0)), .null, .null, .null, .null, .null, .null, .int 0]))]) := hD
  refine lv_aload_n hx hb dX4_init_26 rfl (lv_at hl 0 rfl) ?_
  refine cn_objN (K := K2) (M := am_M0) (mi := m_X4_init) (mi' := m_X1_init) (host := "AlwaysAhead") (rm := { frames := 1, cells := 7, slots := 48, locals := 60 }) (ci := 1) (N := 14) (mc := 7) (ms := 48) (d := 2) (C := RX1) (T := TX1) (ty0 := tyX1) (df := [.int 0, .int 0, .int 0, .null, .null, .null, .int 0, .int 0, .null, .int 0, .null, .null, .null, .int 0]) (NL := am_dom_X1_init) hx hb (hml.trans hl.1.symm) hts hown hK hFw dX4_init_27 dX4_init_30 dX4_init_31 fi_X1 tyX1_ok rfl (am_Tt 22 (by decide +kernel) rfl) (am_Tt 23 (by decide +kernel) rfl) (am_Tt 2 (by decide +kernel) rfl) (by decide +kernel) hFw.2.2.2.2.1 (am_Tt 25 (by decide +kernel) rfl) rfl rfl cb_X1_init (fun h0 sz => by rw [ed, ec]; exact c_X1_init l D cA h0 sz) (by decide +kernel) (Nat.le_of_ble_eq_true rfl) (Nat.le_of_ble_eq_true rfl) (Nat.le_of_ble_eq_true rfl) (by decide +kernel) (by decide +kernel) (by rw [eo]; exact fun _ => rfl) (fun _ _ _ => rfl) (fun _ _ _ => rfl) (by rw [hdm]; decide +kernel) hP hD hS hA (fun q ad3 H locs hq hP hD hS => ?_)
  subst hq
  have hP : va_P (am_D (am_extN K2 am_dom_X1_init 2 ad3)) vwCl _ H := hP
  generalize hK3 : am_extN K2 am_dom_X1_init 2 ad3 = K3 at hP hD
  have hdm : am_dom K3 = [(203, 0, 0), (204, 0, 0), (205, 0, 0), (208, 0, 0), (210, 0, 0), (211, 0, 0), (212, 0, 0), (1, 0, 0), (203, 1, 0), (204, 1, 0), (205, 1, 0), (208, 1, 0), (210, 1, 0), (211, 1, 0), (212, 1, 0), (1, 1, 0), (203, 2, 0), (204, 2, 0), (205, 2, 0), (208, 2, 0), (210, 2, 0), (211, 2, 0), (212, 2, 0), (1, 2, 0)] := by rw [← hK3]; show am_dom K2 ++ am_dom_X1_init.map (am_ren 2) = _; rw [hdm]; decide +kernel
  have ea3 : am_ad K3 = fun r => if r ∈ am_dom_X1_init.map (am_ren 2) then ad3 (r.1, 0, r.2.2) else am_ad K2 r := by rw [← hK3]; rfl
  have hK : va_K (am_D K3) vwCl (am_tys K3) s := by rw [← hK3]; exact hK
  have ed : am_D K3 = D := by rw [← hK3]; exact ed
  have ec : am_cA K3 = cA := by rw [← hK3]; exact ec
  have el : am_l K3 = l := by rw [← hK3]; exact el
  have eo : am_opq K3 = fun _ _ => .null := by rw [← hK3]; exact eo
  refine cn_put (K := K3) (M := am_M0) (own := RX4) (h0 := h0) (ex2 := []) (v := .ref (ad3 (1, 0, 0))) hx hb hts hown hin hK fi_X4 tyX4 tyX4_ok nmX4 rfl (by decide) (am_Tt 188 (by decide +kernel) rfl) rfl rfl (tyX4_ok 2 (by decide)) rfl rfl (Nat.le_of_ble_eq_true rfl) dX4_init_34 hP hD hS (fun H locs hP hD hS => ?_)
  have hP : va_P (am_D K3) vwCl (am_ws K3 am_M0 ++ [(h0, .inr (4, [.ref (ad1 (1, 0, 0)), .ref (ad2 (1, 0, 0)), .ref (ad3 (1, 0, 0)), .null, .null, .null, .null, .null, .int 0]))]) H := hP
  have hD : va_D A (am_ws K3 am_M0 ++ [(h0, .inr (4, [.ref (ad1 (1, 0, 0)), .ref (ad2 (1, 0, 0)), .ref (ad3 (1, 0, 0)), .null, .null, .null, .null, .null, .int 0]))]) := hD
  refine lv_aload_n hx hb dX4_init_37 rfl (lv_at hl 0 rfl) ?_
  refine cn_objN (K := K3) (M := am_M0) (mi := m_X4_init) (mi' := m_X0_init) (host := "AlwaysAhead") (rm := { frames := 1, cells := 6, slots := 750, locals := 60 }) (ci := 0) (N := 8) (mc := 6) (ms := 750) (d := 0) (C := RX0) (T := TX0) (ty0 := tyX0) (df := [.int 0, .int 0, .null, .null, .null, .null, .null, .null]) (NL := am_dom_X0_init) hx hb (hml.trans hl.1.symm) hts hown hK hFw dX4_init_38 dX4_init_41 dX4_init_42 fi_X0 tyX0_ok rfl (am_Tt 101 (by decide +kernel) rfl) (am_Tt 102 (by decide +kernel) rfl) (am_Tt 3 (by decide +kernel) rfl) (by decide +kernel) hFw.2.2.2.2.2.1 (am_Tt 104 (by decide +kernel) rfl) rfl rfl cb_X0_init (fun h0 sz => by rw [ed, ec]; exact c_X0_init l D cA h0 sz) (by decide +kernel) (Nat.le_of_ble_eq_true rfl) (Nat.le_of_ble_eq_true rfl) (Nat.le_of_ble_eq_true rfl) (by decide +kernel) (by decide +kernel) (by rw [eo]; exact fun _ => rfl) (fun _ _ _ => rfl) (fun _ _ _ => rfl) (by rw [hdm]; decide +kernel) hP hD hS hA (fun q ad4 H locs hq hP hD hS => ?_)
  subst hq
  have hP : va_P (am_D (am_extN K3 am_dom_X0_init 0 ad4)) vwCl _ H := hP
  generalize hK4 : am_extN K3 am_dom_X0_init 0 ad4 = K4 at hP hD
  have hdm : am_dom K4 = [(203, 0, 0), (204, 0, 0), (205, 0, 0), (208, 0, 0), (210, 0, 0), (211, 0, 0), (212, 0, 0), (1, 0, 0), (203, 1, 0), (204, 1, 0), (205, 1, 0), (208, 1, 0), (210, 1, 0), (211, 1, 0), (212, 1, 0), (1, 1, 0), (203, 2, 0), (204, 2, 0), (205, 2, 0), (208, 2, 0), (210, 2, 0), (211, 2, 0), (212, 2, 0), (1, 2, 0), (102, 0, 0), (103, 0, 0), (104, 0, 0), (105, 0, 0), (106, 0, 0), (107, 0, 0), (0, 0, 0)] := by rw [← hK4]; show am_dom K3 ++ am_dom_X0_init.map (am_ren 0) = _; rw [hdm]; decide +kernel
  have ea4 : am_ad K4 = fun r => if r ∈ am_dom_X0_init.map (am_ren 0) then ad4 (r.1, 0, r.2.2) else am_ad K3 r := by rw [← hK4]; rfl
  have hK : va_K (am_D K4) vwCl (am_tys K4) s := by rw [← hK4]; exact hK
  have ed : am_D K4 = D := by rw [← hK4]; exact ed
  have ec : am_cA K4 = cA := by rw [← hK4]; exact ec
  have el : am_l K4 = l := by rw [← hK4]; exact el
  have eo : am_opq K4 = fun _ _ => .null := by rw [← hK4]; exact eo
  refine cn_put (K := K4) (M := am_M0) (own := RX4) (h0 := h0) (ex2 := []) (v := .ref (ad4 (0, 0, 0))) hx hb hts hown hin hK fi_X4 tyX4 tyX4_ok nmX4 rfl (by decide) (am_Tt 189 (by decide +kernel) rfl) rfl rfl (tyX4_ok 3 (by decide)) rfl rfl (Nat.le_of_ble_eq_true rfl) dX4_init_45 hP hD hS (fun H locs hP hD hS => ?_)
  have hP : va_P (am_D K4) vwCl (am_ws K4 am_M0 ++ [(h0, .inr (4, [.ref (ad1 (1, 0, 0)), .ref (ad2 (1, 0, 0)), .ref (ad3 (1, 0, 0)), .ref (ad4 (0, 0, 0)), .null, .null, .null, .null, .int 0]))]) H := hP
  have hD : va_D A (am_ws K4 am_M0 ++ [(h0, .inr (4, [.ref (ad1 (1, 0, 0)), .ref (ad2 (1, 0, 0)), .ref (ad3 (1, 0, 0)), .ref (ad4 (0, 0, 0)), .null, .null, .null, .null, .int 0]))]) := hD
  refine lv_aload_n hx hb dX4_init_48 rfl (lv_at hl 0 rfl) ?_
  refine cn_objN (K := K4) (M := am_M0) (mi := m_X4_init) (mi' := m_X3_init) (host := "AlwaysAhead") (rm := { frames := 1, cells := 1, slots := 250, locals := 60 }) (ci := 3) (N := 6) (mc := 1) (ms := 250) (d := 0) (C := RX3) (T := TX3) (ty0 := tyX3) (df := [.int 0, .int 0, .null, .int 0, .int 0, .int 0]) (NL := am_dom_X3_init) hx hb (hml.trans hl.1.symm) hts hown hK hFw dX4_init_49 dX4_init_52 dX4_init_53 fi_X3 tyX3_ok rfl (am_Tt 135 (by decide +kernel) rfl) (am_Tt 136 (by decide +kernel) rfl) (am_Tt 4 (by decide +kernel) rfl) (by decide +kernel) hFw.2.2.2.2.2.2.1 (am_Tt 138 (by decide +kernel) rfl) rfl rfl cb_X3_init (fun h0 sz => by rw [ed, ec]; exact c_X3_init l D cA h0 sz) (by decide +kernel) (Nat.le_of_ble_eq_true rfl) (Nat.le_of_ble_eq_true rfl) (Nat.le_of_ble_eq_true rfl) (by decide +kernel) (by decide +kernel) (by rw [eo]; exact fun _ => rfl) (fun _ _ _ => rfl) (fun _ _ _ => rfl) (by rw [hdm]; decide +kernel) hP hD hS hA (fun q ad5 H locs hq hP hD hS => ?_)
  subst hq
  have hP : va_P (am_D (am_extN K4 am_dom_X3_init 0 ad5)) vwCl _ H := hP
  generalize hK5 : am_extN K4 am_dom_X3_init 0 ad5 = K5 at hP hD
  have hdm : am_dom K5 = [(203, 0, 0), (204, 0, 0), (205, 0, 0), (208, 0, 0), (210, 0, 0), (211, 0, 0), (212, 0, 0), (1, 0, 0), (203, 1, 0), (204, 1, 0), (205, 1, 0), (208, 1, 0), (210, 1, 0), (211, 1, 0), (212, 1, 0), (1, 1, 0), (203, 2, 0), (204, 2, 0), (205, 2, 0), (208, 2, 0), (210, 2, 0), (211, 2, 0), (212, 2, 0), (1, 2, 0), (102, 0, 0), (103, 0, 0), (104, 0, 0), (105, 0, 0), (106, 0, 0), (107, 0, 0), (0, 0, 0), (402, 0, 0), (3, 0, 0)] := by rw [← hK5]; show am_dom K4 ++ am_dom_X3_init.map (am_ren 0) = _; rw [hdm]; decide +kernel
  have ea5 : am_ad K5 = fun r => if r ∈ am_dom_X3_init.map (am_ren 0) then ad5 (r.1, 0, r.2.2) else am_ad K4 r := by rw [← hK5]; rfl
  have hK : va_K (am_D K5) vwCl (am_tys K5) s := by rw [← hK5]; exact hK
  have ed : am_D K5 = D := by rw [← hK5]; exact ed
  have ec : am_cA K5 = cA := by rw [← hK5]; exact ec
  have el : am_l K5 = l := by rw [← hK5]; exact el
  have eo : am_opq K5 = fun _ _ => .null := by rw [← hK5]; exact eo
  refine cn_put (K := K5) (M := am_M0) (own := RX4) (h0 := h0) (ex2 := []) (v := .ref (ad5 (3, 0, 0))) hx hb hts hown hin hK fi_X4 tyX4 tyX4_ok nmX4 rfl (by decide) (am_Tt 190 (by decide +kernel) rfl) rfl rfl (tyX4_ok 4 (by decide)) rfl rfl (Nat.le_of_ble_eq_true rfl) dX4_init_56 hP hD hS (fun H locs hP hD hS => ?_)
  have hP : va_P (am_D K5) vwCl (am_ws K5 am_M0 ++ [(h0, .inr (4, [.ref (ad1 (1, 0, 0)), .ref (ad2 (1, 0, 0)), .ref (ad3 (1, 0, 0)), .ref (ad4 (0, 0, 0)), .ref (ad5 (3, 0, 0)), .null, .null, .null, .int 0]))]) H := hP
  have hD : va_D A (am_ws K5 am_M0 ++ [(h0, .inr (4, [.ref (ad1 (1, 0, 0)), .ref (ad2 (1, 0, 0)), .ref (ad3 (1, 0, 0)), .ref (ad4 (0, 0, 0)), .ref (ad5 (3, 0, 0)), .null, .null, .null, .int 0]))]) := hD
  refine lv_aload_n hx hb dX4_init_59 rfl (lv_at hl 0 rfl) ?_
  refine lv_bipush hx hb dX4_init_60 bp_8 ?_
  refine va_newq (D := am_D K5) (cl := vwCl) (tys := am_tys K5) (A := A) (H0 := s.heap) (C := "AlwaysAhead$Shelf") (own := RX4) hx hb hown (hts _ (am_Tt 162 (by decide +kernel) rfl)) hFw.2.2.2.1 hK hP hD hS hA (by decide) (N' := 8) (by decide +kernel) (by decide) (Nat.le_of_ble_eq_true rfl) (Nat.le_of_ble_eq_true rfl) dX4_init_62 (fun qs cS H hK2 hP hD hS => ?_)
  have hcS : cS = am_cA K5 3 := by
    obtain ⟨kA, comp, k1, k2, k3, e1⟩ := (hK.2 3 _ rfl).2
    obtain ⟨kA', comp', k1', k2', k3', e2⟩ := (hK2.2 7 (cS, .object "AlwaysAhead$Shelf") rfl).2
    exact Option.some.inj (e2.symm.trans e1)
  subst hcS
  rw [List.append_assoc] at hP hD
  have hP : va_P (am_D K5) vwCl (am_ws K5 am_M0 ++ [(h0, .inr (4, [.ref (ad1 (1, 0, 0)), .ref (ad2 (1, 0, 0)), .ref (ad3 (1, 0, 0)), .ref (ad4 (0, 0, 0)), .ref (ad5 (3, 0, 0)), .null, .null, .null, .int 0])), (qs, .inl (am_cA K5 3, 8, .inr (.inr (.inr (.inr (fun _ => none))))))]) H := hP
  have hD : va_D A (am_ws K5 am_M0 ++ [(h0, .inr (4, [.ref (ad1 (1, 0, 0)), .ref (ad2 (1, 0, 0)), .ref (ad3 (1, 0, 0)), .ref (ad4 (0, 0, 0)), .ref (ad5 (3, 0, 0)), .null, .null, .null, .int 0])), (qs, .inl (am_cA K5 3, 8, .inr (.inr (.inr (.inr (fun _ => none))))))]) := hD
  refine cn_put (K := K5) (M := am_M0) (own := RX4) (h0 := h0) (ex2 := [(qs, .inl (am_cA K5 3, 8, .inr (.inr (.inr (.inr (fun _ => none))))))]) (v := .ref qs) hx hb hts hown hin hK fi_X4 tyX4 tyX4_ok nmX4 rfl (by decide) (am_Tt 191 (by decide +kernel) rfl) rfl rfl (tyX4_ok 5 (by decide)) rfl rfl (Nat.le_of_ble_eq_true rfl) dX4_init_65 hP hD hS (fun H locs hP hD hS => ?_)
  have hP : va_P (am_D K5) vwCl (am_ws K5 am_M0 ++ [(h0, .inr (4, [.ref (ad1 (1, 0, 0)), .ref (ad2 (1, 0, 0)), .ref (ad3 (1, 0, 0)), .ref (ad4 (0, 0, 0)), .ref (ad5 (3, 0, 0)), .ref qs, .null, .null, .int 0])), (qs, .inl (am_cA K5 3, 8, .inr (.inr (.inr (.inr (fun _ => none))))))]) H := hP
  have hD : va_D A (am_ws K5 am_M0 ++ [(h0, .inr (4, [.ref (ad1 (1, 0, 0)), .ref (ad2 (1, 0, 0)), .ref (ad3 (1, 0, 0)), .ref (ad4 (0, 0, 0)), .ref (ad5 (3, 0, 0)), .ref qs, .null, .null, .int 0])), (qs, .inl (am_cA K5 3, 8, .inr (.inr (.inr (.inr (fun _ => none))))))]) := hD
  refine lv_aload_n hx hb dX4_init_68 rfl (lv_at hl 0 rfl) ?_
  refine lv_iconst hx hb dX4_init_69 ic_4 ?_
  refine cn_new1 (K := K5) (M := am_M0) (t := 0) (n := 4) (k := 506) hx hb dX4_init_70 (hts _ cn_wI) hK rfl (fun h => h) (fun q => am_e_int sh_506) (cn_zi (by decide) (by decide) (by decide)) (by rw [hdm]; decide +kernel) (by decide) (by decide +kernel) (by decide +kernel) (Nat.le_of_ble_eq_true rfl) (Nat.le_of_ble_eq_true rfl) hP hD hS hA (fun q506 H hP hD hS => ?_)
  have hP : va_P (am_D (am_ext K5 (506, 0, 0) q506)) vwCl _ H := hP
  have eC : am_cA K5 = am_cA (am_ext K5 (506, 0, 0) q506) := rfl
  rw [eC] at hP hD
  generalize hK6 : am_ext K5 (506, 0, 0) q506 = K6 at hP hD
  have hdm : am_dom K6 = [(203, 0, 0), (204, 0, 0), (205, 0, 0), (208, 0, 0), (210, 0, 0), (211, 0, 0), (212, 0, 0), (1, 0, 0), (203, 1, 0), (204, 1, 0), (205, 1, 0), (208, 1, 0), (210, 1, 0), (211, 1, 0), (212, 1, 0), (1, 1, 0), (203, 2, 0), (204, 2, 0), (205, 2, 0), (208, 2, 0), (210, 2, 0), (211, 2, 0), (212, 2, 0), (1, 2, 0), (102, 0, 0), (103, 0, 0), (104, 0, 0), (105, 0, 0), (106, 0, 0), (107, 0, 0), (0, 0, 0), (402, 0, 0), (3, 0, 0), (506, 0, 0)] := by rw [← hK6]; show am_dom K5 ++ [(506, 0, 0)] = _; rw [hdm]; rfl
  have ea6 : am_ad K6 = fun r => if r = (506, 0, 0) then q506 else am_ad K5 r := by rw [← hK6]; rfl
  have hK : va_K (am_D K6) vwCl (am_tys K6) s := by rw [← hK6]; exact hK
  have ed : am_D K6 = D := by rw [← hK6]; exact ed
  have ec : am_cA K6 = cA := by rw [← hK6]; exact ec
  have el : am_l K6 = l := by rw [← hK6]; exact el
  have eo : am_opq K6 = fun _ _ => .null := by rw [← hK6]; exact eo
  refine cn_put (K := K6) (M := am_M0) (own := RX4) (h0 := h0) (ex2 := [(qs, .inl (am_cA K6 3, 8, .inr (.inr (.inr (.inr (fun _ => none))))))]) (v := .ref q506) hx hb hts hown hin hK fi_X4 tyX4 tyX4_ok nmX4 rfl (by decide) (am_Tt 192 (by decide +kernel) rfl) rfl rfl (tyX4_ok 6 (by decide)) rfl rfl (Nat.le_of_ble_eq_true rfl) dX4_init_72 hP hD hS (fun H locs hP hD hS => ?_)
  have hP : va_P (am_D K6) vwCl (am_ws K6 am_M0 ++ [(h0, .inr (4, [.ref (ad1 (1, 0, 0)), .ref (ad2 (1, 0, 0)), .ref (ad3 (1, 0, 0)), .ref (ad4 (0, 0, 0)), .ref (ad5 (3, 0, 0)), .ref qs, .ref q506, .null, .int 0])), (qs, .inl (am_cA K6 3, 8, .inr (.inr (.inr (.inr (fun _ => none))))))]) H := hP
  have hD : va_D A (am_ws K6 am_M0 ++ [(h0, .inr (4, [.ref (ad1 (1, 0, 0)), .ref (ad2 (1, 0, 0)), .ref (ad3 (1, 0, 0)), .ref (ad4 (0, 0, 0)), .ref (ad5 (3, 0, 0)), .ref qs, .ref q506, .null, .int 0])), (qs, .inl (am_cA K6 3, 8, .inr (.inr (.inr (.inr (fun _ => none))))))]) := hD
  refine lv_aload_n hx hb dX4_init_75 rfl (lv_at hl 0 rfl) ?_
  refine lv_iconst hx hb dX4_init_76 ic_5 ?_
  refine cn_new1 (K := K6) (M := am_M0) (t := 0) (n := 5) (k := 507) hx hb dX4_init_77 (hts _ cn_wI) hK rfl (fun h => h) (fun q => am_e_int sh_507) (cn_zi (by decide) (by decide) (by decide)) (by rw [hdm]; decide +kernel) (by decide) (by decide +kernel) (by decide +kernel) (Nat.le_of_ble_eq_true rfl) (Nat.le_of_ble_eq_true rfl) hP hD hS hA (fun q507 H hP hD hS => ?_)
  have hP : va_P (am_D (am_ext K6 (507, 0, 0) q507)) vwCl _ H := hP
  have eC : am_cA K6 = am_cA (am_ext K6 (507, 0, 0) q507) := rfl
  rw [eC] at hP hD
  generalize hK7 : am_ext K6 (507, 0, 0) q507 = K7 at hP hD
  have hdm : am_dom K7 = [(203, 0, 0), (204, 0, 0), (205, 0, 0), (208, 0, 0), (210, 0, 0), (211, 0, 0), (212, 0, 0), (1, 0, 0), (203, 1, 0), (204, 1, 0), (205, 1, 0), (208, 1, 0), (210, 1, 0), (211, 1, 0), (212, 1, 0), (1, 1, 0), (203, 2, 0), (204, 2, 0), (205, 2, 0), (208, 2, 0), (210, 2, 0), (211, 2, 0), (212, 2, 0), (1, 2, 0), (102, 0, 0), (103, 0, 0), (104, 0, 0), (105, 0, 0), (106, 0, 0), (107, 0, 0), (0, 0, 0), (402, 0, 0), (3, 0, 0), (506, 0, 0), (507, 0, 0)] := by rw [← hK7]; show am_dom K6 ++ [(507, 0, 0)] = _; rw [hdm]; rfl
  have ea7 : am_ad K7 = fun r => if r = (507, 0, 0) then q507 else am_ad K6 r := by rw [← hK7]; rfl
  have hK : va_K (am_D K7) vwCl (am_tys K7) s := by rw [← hK7]; exact hK
  have ed : am_D K7 = D := by rw [← hK7]; exact ed
  have ec : am_cA K7 = cA := by rw [← hK7]; exact ec
  have el : am_l K7 = l := by rw [← hK7]; exact el
  have eo : am_opq K7 = fun _ _ => .null := by rw [← hK7]; exact eo
  refine cn_put (K := K7) (M := am_M0) (own := RX4) (h0 := h0) (ex2 := [(qs, .inl (am_cA K7 3, 8, .inr (.inr (.inr (.inr (fun _ => none))))))]) (v := .ref q507) hx hb hts hown hin hK fi_X4 tyX4 tyX4_ok nmX4 rfl (by decide) (am_Tt 193 (by decide +kernel) rfl) rfl rfl (tyX4_ok 7 (by decide)) rfl rfl (Nat.le_of_ble_eq_true rfl) dX4_init_79 hP hD hS (fun H locs hP hD hS => ?_)
  have hP : va_P (am_D K7) vwCl (am_ws K7 am_M0 ++ [(h0, .inr (4, [.ref (ad1 (1, 0, 0)), .ref (ad2 (1, 0, 0)), .ref (ad3 (1, 0, 0)), .ref (ad4 (0, 0, 0)), .ref (ad5 (3, 0, 0)), .ref qs, .ref q506, .ref q507, .int 0])), (qs, .inl (am_cA K7 3, 8, .inr (.inr (.inr (.inr (fun _ => none))))))]) H := hP
  have hD : va_D A (am_ws K7 am_M0 ++ [(h0, .inr (4, [.ref (ad1 (1, 0, 0)), .ref (ad2 (1, 0, 0)), .ref (ad3 (1, 0, 0)), .ref (ad4 (0, 0, 0)), .ref (ad5 (3, 0, 0)), .ref qs, .ref q506, .ref q507, .int 0])), (qs, .inl (am_cA K7 3, 8, .inr (.inr (.inr (.inr (fun _ => none))))))]) := hD
  refine lv_iconst hx hb dX4_init_82 ic_0 ?_
  refine lv_istore_n hx hb dX4_init_83 rfl hl (by decide) rfl (fun ls hl => ?_)
  have hl : lv_has ls 2 [(1, .int 0), (0, .ref h0)] := hl
  refine lv_iload_n hx hb dX4_init_84 rfl (lv_at hl 0 rfl) ?_
  refine lv_bipush hx hb dX4_init_85 bp_8 ?_
  refine lv_icmp_ge (tgt := 109) hx hb dX4_init_87 rfl (fun h => absurd h (by decide)) (fun _ => ?_)
  refine lv_aload_n hx hb dX4_init_90 rfl (lv_at hl 1 rfl) ?_
  have hpos : (am_ws K7 am_M0 ++ ([(h0, .inr (4, [.ref (ad1 (1, 0, 0)), .ref (ad2 (1, 0, 0)), .ref (ad3 (1, 0, 0)), .ref (ad4 (0, 0, 0)), .ref (ad5 (3, 0, 0)), .ref qs, .ref q506, .ref q507, .int 0])), (qs, .inl (am_cA K7 3, 8, .inr (.inr (.inr (.inr (fun _ => none))))))] : va_W))[(am_ws K7 am_M0).length]? = some (h0, .inr (4, [.ref (ad1 (1, 0, 0)), .ref (ad2 (1, 0, 0)), .ref (ad3 (1, 0, 0)), .ref (ad4 (0, 0, 0)), .ref (ad5 (3, 0, 0)), .ref qs, .ref q506, .ref q507, .int 0])) := by rw [List.getElem?_append_right (Nat.le_refl _), Nat.sub_self]; rfl
  refine va_get (D := am_D K7) (ci := 4) (v := .ref qs) (C := RX4) (T := TX4) (N := 9) (own := RX4) hx hb hts fi_X4 hown hK hP _ hpos rfl 5 (by decide) (hts (.fieldLink RX4 38 "AlwaysAhead" "shelves" "[LAlwaysAhead$Shelf;") (am_Tt 191 (by decide +kernel) rfl)) (fun _ h9 => h9) rfl dX4_init_91 ?_
  refine lv_iload_n hx hb dX4_init_94 rfl (lv_at hl 0 rfl) ?_
  refine cn_objN (K := K7) (M := am_M0) (mi := m_X4_init) (mi' := m_X2_init) (host := "AlwaysAhead") (rm := { frames := 1, cells := 1, slots := 40, locals := 60 }) (ci := 2) (N := 4) (mc := 1) (ms := 40) (d := 0) (C := RX2) (T := TX2) (ty0 := tyX2) (df := [.int 0, .int 0, .int 0, .null]) (NL := am_dom_X2_init) hx hb (hml.trans hl.1.symm) hts hown hK hFw dX4_init_95 dX4_init_98 dX4_init_99 fi_X2 tyX2_ok rfl (am_Tt 162 (by decide +kernel) rfl) (am_Tt 164 (by decide +kernel) rfl) (am_Tt 5 (by decide +kernel) rfl) (by decide +kernel) hFw.2.2.2.2.2.2.2 (am_Tt 166 (by decide +kernel) rfl) rfl rfl cb_X2_init (fun h0 sz => by rw [ed, ec]; exact c_X2_init l D cA h0 sz) (by decide +kernel) (Nat.le_of_ble_eq_true rfl) (Nat.le_of_ble_eq_true rfl) (Nat.le_of_ble_eq_true rfl) (by decide +kernel) (by decide +kernel) (by rw [eo]; exact fun _ => rfl) (fun _ _ _ => rfl) (fun _ _ _ => rfl) (by rw [hdm]; decide +kernel) hP hD hS hA (fun q ad8 H locs hq hP hD hS => ?_)
  subst hq
  have hP : va_P (am_D (am_extN K7 am_dom_X2_init 0 ad8)) vwCl _ H := hP
  generalize hK8 : am_extN K7 am_dom_X2_init 0 ad8 = K8 at hP hD
  have hdm : am_dom K8 = [(203, 0, 0), (204, 0, 0), (205, 0, 0), (208, 0, 0), (210, 0, 0), (211, 0, 0), (212, 0, 0), (1, 0, 0), (203, 1, 0), (204, 1, 0), (205, 1, 0), (208, 1, 0), (210, 1, 0), (211, 1, 0), (212, 1, 0), (1, 1, 0), (203, 2, 0), (204, 2, 0), (205, 2, 0), (208, 2, 0), (210, 2, 0), (211, 2, 0), (212, 2, 0), (1, 2, 0), (102, 0, 0), (103, 0, 0), (104, 0, 0), (105, 0, 0), (106, 0, 0), (107, 0, 0), (0, 0, 0), (402, 0, 0), (3, 0, 0), (506, 0, 0), (507, 0, 0), (303, 0, 0), (2, 0, 0)] := by rw [← hK8]; show am_dom K7 ++ am_dom_X2_init.map (am_ren 0) = _; rw [hdm]; decide +kernel
  have ea8 : am_ad K8 = fun r => if r ∈ am_dom_X2_init.map (am_ren 0) then ad8 (r.1, 0, r.2.2) else am_ad K7 r := by rw [← hK8]; rfl
  have hK : va_K (am_D K8) vwCl (am_tys K8) s := by rw [← hK8]; exact hK
  have ed : am_D K8 = D := by rw [← hK8]; exact ed
  have ec : am_cA K8 = cA := by rw [← hK8]; exact ec
  have el : am_l K8 = l := by rw [← hK8]; exact el
  have eo : am_opq K8 = fun _ _ => .null := by rw [← hK8]; exact eo
  have eC : am_cA K8 = am_cA K7 := by rw [← hK8]; rfl
  rw [← eC] at hP hD
  have hP : va_P (am_D K8) vwCl (am_ws K8 am_M0 ++ [(h0, .inr (4, [.ref (ad1 (1, 0, 0)), .ref (ad2 (1, 0, 0)), .ref (ad3 (1, 0, 0)), .ref (ad4 (0, 0, 0)), .ref (ad5 (3, 0, 0)), .ref qs, .ref q506, .ref q507, .int 0])), (qs, .inl (am_cA K8 3, 8, .inr (.inr (.inr (.inr (fun _ => none))))))]) H := hP
  have hD : va_D A (am_ws K8 am_M0 ++ [(h0, .inr (4, [.ref (ad1 (1, 0, 0)), .ref (ad2 (1, 0, 0)), .ref (ad3 (1, 0, 0)), .ref (ad4 (0, 0, 0)), .ref (ad5 (3, 0, 0)), .ref qs, .ref q506, .ref q507, .int 0])), (qs, .inl (am_cA K8 3, 8, .inr (.inr (.inr (.inr (fun _ => none))))))]) := hD
  obtain ⟨qk, hqk⟩ := am_place (K := K8) (q := (2, 0, 0)) (by rw [hdm]; decide +kernel)
  have hqa : am_ad K8 (2, 0, 0) = ad8 (2, 0, 0) := by rw [ea8]; rfl
  have hqw := am_wsK am_M0 hqk
  rw [am_e_obj sh_2, hqa] at hqw
  have hqw2 : (am_ws K8 am_M0 ++ ([(h0, .inr (4, [.ref (ad1 (1, 0, 0)), .ref (ad2 (1, 0, 0)), .ref (ad3 (1, 0, 0)), .ref (ad4 (0, 0, 0)), .ref (ad5 (3, 0, 0)), .ref qs, .ref q506, .ref q507, .int 0])), (qs, .inl (am_cA K8 3, 8, .inr (.inr (.inr (.inr (fun _ => none))))))] : va_W))[qk]? = some (ad8 (2, 0, 0), .inr (2, (List.range 4).map (fun j => am_fv K8 am_M0 (2, 0, 0) j (am_f2 j)))) := by rw [List.getElem?_append_left (List.getElem?_eq_some_iff.mp hqw).1]; exact hqw
  have hpos2 : (am_ws K8 am_M0 ++ ([(h0, .inr (4, [.ref (ad1 (1, 0, 0)), .ref (ad2 (1, 0, 0)), .ref (ad3 (1, 0, 0)), .ref (ad4 (0, 0, 0)), .ref (ad5 (3, 0, 0)), .ref qs, .ref q506, .ref q507, .int 0])), (qs, .inl (am_cA K8 3, 8, .inr (.inr (.inr (.inr (fun _ => none))))))] : va_W))[(am_ws K8 am_M0).length + 1]? = some (qs, .inl (am_cA K8 3, 8, .inr (.inr (.inr (.inr (fun _ => none)))))) := by rw [List.getElem?_append_right (Nat.le_add_right _ _), Nat.add_sub_cancel_left]; rfl
  refine va_astq (D := am_D K8) (cl := vwCl) (tys := am_tys K8) (r := (RX2, TX2, 4)) (A := A) (H0 := s.heap) hx hb hK hP hD hS ((am_ws K8 am_M0).length + 1) 3 qk 2 hpos2 rfl hqw2 rfl (i := 0) (am_inbE (by decide +kernel)) dX4_init_102 (fun H locs hP hD hS => ?_)
  have es : (am_ws K8 am_M0 ++ ([(h0, .inr (4, [.ref (ad1 (1, 0, 0)), .ref (ad2 (1, 0, 0)), .ref (ad3 (1, 0, 0)), .ref (ad4 (0, 0, 0)), .ref (ad5 (3, 0, 0)), .ref qs, .ref q506, .ref q507, .int 0])), (qs, .inl (am_cA K8 3, 8, .inr (.inr (.inr (.inr (fun _ => none))))))] : va_W)).set ((am_ws K8 am_M0).length + 1) (qs, .inl (am_cA K8 3, 8, .inr (.inr (.inr (.inr (va_up (fun _ => none) (0 : Int32).toNatClampNeg (some (ad8 (2, 0, 0))))))))) = am_ws K8 am_M0 ++ [(h0, .inr (4, [.ref (ad1 (1, 0, 0)), .ref (ad2 (1, 0, 0)), .ref (ad3 (1, 0, 0)), .ref (ad4 (0, 0, 0)), .ref (ad5 (3, 0, 0)), .ref qs, .ref q506, .ref q507, .int 0])), (qs, .inl (am_cA K8 3, 8, .inr (.inr (.inr (.inr (va_up (fun _ => none) (0 : Int32).toNatClampNeg (some (ad8 (2, 0, 0)))))))))] := by rw [List.set_append_right _ _ (Nat.le_add_right _ _), Nat.add_sub_cancel_left]; rfl
  rw [es] at hP hD
  refine lv_iinc hx hb dX4_init_103 hl (k := 0) rfl (v := 1) (by decide +kernel) (by decide) rfl (fun ls hl => ?_)
  have hl : lv_has ls 2 [(1, .int 1), (0, .ref h0)] := hl
  refine lv_goto (tgt := 84) hx hb dX4_init_106 rfl ?_
  refine lv_iload_n hx hb dX4_init_84 rfl (lv_at hl 0 rfl) ?_
  refine lv_bipush hx hb dX4_init_85 bp_8 ?_
  refine lv_icmp_ge (tgt := 109) hx hb dX4_init_87 rfl (fun h => absurd h (by decide)) (fun _ => ?_)
  refine lv_aload_n hx hb dX4_init_90 rfl (lv_at hl 1 rfl) ?_
  have hpos : (am_ws K8 am_M0 ++ ([(h0, .inr (4, [.ref (ad1 (1, 0, 0)), .ref (ad2 (1, 0, 0)), .ref (ad3 (1, 0, 0)), .ref (ad4 (0, 0, 0)), .ref (ad5 (3, 0, 0)), .ref qs, .ref q506, .ref q507, .int 0])), (qs, .inl (am_cA K8 3, 8, .inr (.inr (.inr (.inr (va_up (fun _ => none) (0 : Int32).toNatClampNeg (some (ad8 (2, 0, 0)))))))))] : va_W))[(am_ws K8 am_M0).length]? = some (h0, .inr (4, [.ref (ad1 (1, 0, 0)), .ref (ad2 (1, 0, 0)), .ref (ad3 (1, 0, 0)), .ref (ad4 (0, 0, 0)), .ref (ad5 (3, 0, 0)), .ref qs, .ref q506, .ref q507, .int 0])) := by rw [List.getElem?_append_right (Nat.le_refl _), Nat.sub_self]; rfl
  refine va_get (D := am_D K8) (ci := 4) (v := .ref qs) (C := RX4) (T := TX4) (N := 9) (own := RX4) hx hb hts fi_X4 hown hK hP _ hpos rfl 5 (by decide) (hts (.fieldLink RX4 38 "AlwaysAhead" "shelves" "[LAlwaysAhead$Shelf;") (am_Tt 191 (by decide +kernel) rfl)) (fun _ h9 => h9) rfl dX4_init_91 ?_
  refine lv_iload_n hx hb dX4_init_94 rfl (lv_at hl 0 rfl) ?_
  refine cn_objN (K := K8) (M := am_M0) (mi := m_X4_init) (mi' := m_X2_init) (host := "AlwaysAhead") (rm := { frames := 1, cells := 1, slots := 40, locals := 60 }) (ci := 2) (N := 4) (mc := 1) (ms := 40) (d := 1) (C := RX2) (T := TX2) (ty0 := tyX2) (df := [.int 0, .int 0, .int 0, .null]) (NL := am_dom_X2_init) hx hb (hml.trans hl.1.symm) hts hown hK hFw dX4_init_95 dX4_init_98 dX4_init_99 fi_X2 tyX2_ok rfl (am_Tt 162 (by decide +kernel) rfl) (am_Tt 164 (by decide +kernel) rfl) (am_Tt 5 (by decide +kernel) rfl) (by decide +kernel) hFw.2.2.2.2.2.2.2 (am_Tt 166 (by decide +kernel) rfl) rfl rfl cb_X2_init (fun h0 sz => by rw [ed, ec]; exact c_X2_init l D cA h0 sz) (by decide +kernel) (Nat.le_of_ble_eq_true rfl) (Nat.le_of_ble_eq_true rfl) (Nat.le_of_ble_eq_true rfl) (by decide +kernel) (by decide +kernel) (by rw [eo]; exact fun _ => rfl) (fun _ _ _ => rfl) (fun _ _ _ => rfl) (by rw [hdm]; decide +kernel) hP hD hS hA (fun q ad9 H locs hq hP hD hS => ?_)
  subst hq
  have hP : va_P (am_D (am_extN K8 am_dom_X2_init 1 ad9)) vwCl _ H := hP
  generalize hK9 : am_extN K8 am_dom_X2_init 1 ad9 = K9 at hP hD
  have hdm : am_dom K9 = [(203, 0, 0), (204, 0, 0), (205, 0, 0), (208, 0, 0), (210, 0, 0), (211, 0, 0), (212, 0, 0), (1, 0, 0), (203, 1, 0), (204, 1, 0), (205, 1, 0), (208, 1, 0), (210, 1, 0), (211, 1, 0), (212, 1, 0), (1, 1, 0), (203, 2, 0), (204, 2, 0), (205, 2, 0), (208, 2, 0), (210, 2, 0), (211, 2, 0), (212, 2, 0), (1, 2, 0), (102, 0, 0), (103, 0, 0), (104, 0, 0), (105, 0, 0), (106, 0, 0), (107, 0, 0), (0, 0, 0), (402, 0, 0), (3, 0, 0), (506, 0, 0), (507, 0, 0), (303, 0, 0), (2, 0, 0), (303, 1, 0), (2, 1, 0)] := by rw [← hK9]; show am_dom K8 ++ am_dom_X2_init.map (am_ren 1) = _; rw [hdm]; decide +kernel
  have ea9 : am_ad K9 = fun r => if r ∈ am_dom_X2_init.map (am_ren 1) then ad9 (r.1, 0, r.2.2) else am_ad K8 r := by rw [← hK9]; rfl
  have hK : va_K (am_D K9) vwCl (am_tys K9) s := by rw [← hK9]; exact hK
  have ed : am_D K9 = D := by rw [← hK9]; exact ed
  have ec : am_cA K9 = cA := by rw [← hK9]; exact ec
  have el : am_l K9 = l := by rw [← hK9]; exact el
  have eo : am_opq K9 = fun _ _ => .null := by rw [← hK9]; exact eo
  have eC : am_cA K9 = am_cA K8 := by rw [← hK9]; rfl
  rw [← eC] at hP hD
  have hP : va_P (am_D K9) vwCl (am_ws K9 am_M0 ++ [(h0, .inr (4, [.ref (ad1 (1, 0, 0)), .ref (ad2 (1, 0, 0)), .ref (ad3 (1, 0, 0)), .ref (ad4 (0, 0, 0)), .ref (ad5 (3, 0, 0)), .ref qs, .ref q506, .ref q507, .int 0])), (qs, .inl (am_cA K9 3, 8, .inr (.inr (.inr (.inr (va_up (fun _ => none) (0 : Int32).toNatClampNeg (some (ad8 (2, 0, 0)))))))))]) H := hP
  have hD : va_D A (am_ws K9 am_M0 ++ [(h0, .inr (4, [.ref (ad1 (1, 0, 0)), .ref (ad2 (1, 0, 0)), .ref (ad3 (1, 0, 0)), .ref (ad4 (0, 0, 0)), .ref (ad5 (3, 0, 0)), .ref qs, .ref q506, .ref q507, .int 0])), (qs, .inl (am_cA K9 3, 8, .inr (.inr (.inr (.inr (va_up (fun _ => none) (0 : Int32).toNatClampNeg (some (ad8 (2, 0, 0)))))))))]) := hD
  obtain ⟨qk, hqk⟩ := am_place (K := K9) (q := (2, 1, 0)) (by rw [hdm]; decide +kernel)
  have hqa : am_ad K9 (2, 1, 0) = ad9 (2, 0, 0) := by rw [ea9]; rfl
  have hqw := am_wsK am_M0 hqk
  rw [am_e_obj sh_2, hqa] at hqw
  have hqw2 : (am_ws K9 am_M0 ++ ([(h0, .inr (4, [.ref (ad1 (1, 0, 0)), .ref (ad2 (1, 0, 0)), .ref (ad3 (1, 0, 0)), .ref (ad4 (0, 0, 0)), .ref (ad5 (3, 0, 0)), .ref qs, .ref q506, .ref q507, .int 0])), (qs, .inl (am_cA K9 3, 8, .inr (.inr (.inr (.inr (va_up (fun _ => none) (0 : Int32).toNatClampNeg (some (ad8 (2, 0, 0)))))))))] : va_W))[qk]? = some (ad9 (2, 0, 0), .inr (2, (List.range 4).map (fun j => am_fv K9 am_M0 (2, 1, 0) j (am_f2 j)))) := by rw [List.getElem?_append_left (List.getElem?_eq_some_iff.mp hqw).1]; exact hqw
  have hpos2 : (am_ws K9 am_M0 ++ ([(h0, .inr (4, [.ref (ad1 (1, 0, 0)), .ref (ad2 (1, 0, 0)), .ref (ad3 (1, 0, 0)), .ref (ad4 (0, 0, 0)), .ref (ad5 (3, 0, 0)), .ref qs, .ref q506, .ref q507, .int 0])), (qs, .inl (am_cA K9 3, 8, .inr (.inr (.inr (.inr (va_up (fun _ => none) (0 : Int32).toNatClampNeg (some (ad8 (2, 0, 0)))))))))] : va_W))[(am_ws K9 am_M0).length + 1]? = some (qs, .inl (am_cA K9 3, 8, .inr (.inr (.inr (.inr (va_up (fun _ => none) (0 : Int32).toNatClampNeg (some (ad8 (2, 0, 0))))))))) := by rw [List.getElem?_append_right (Nat.le_add_right _ _), Nat.add_sub_cancel_left]; rfl
  refine va_astq (D := am_D K9) (cl := vwCl) (tys := am_tys K9) (r := (RX2, TX2, 4)) (A := A) (H0 := s.heap) hx hb hK hP hD hS ((am_ws K9 am_M0).length + 1) 3 qk 2 hpos2 rfl hqw2 rfl (i := 1) (am_inbE (by decide +kernel)) dX4_init_102 (fun H locs hP hD hS => ?_)
  have es : (am_ws K9 am_M0 ++ ([(h0, .inr (4, [.ref (ad1 (1, 0, 0)), .ref (ad2 (1, 0, 0)), .ref (ad3 (1, 0, 0)), .ref (ad4 (0, 0, 0)), .ref (ad5 (3, 0, 0)), .ref qs, .ref q506, .ref q507, .int 0])), (qs, .inl (am_cA K9 3, 8, .inr (.inr (.inr (.inr (va_up (fun _ => none) (0 : Int32).toNatClampNeg (some (ad8 (2, 0, 0)))))))))] : va_W)).set ((am_ws K9 am_M0).length + 1) (qs, .inl (am_cA K9 3, 8, .inr (.inr (.inr (.inr (va_up (va_up (fun _ => none) (0 : Int32).toNatClampNeg (some (ad8 (2, 0, 0)))) (1 : Int32).toNatClampNeg (some (ad9 (2, 0, 0))))))))) = am_ws K9 am_M0 ++ [(h0, .inr (4, [.ref (ad1 (1, 0, 0)), .ref (ad2 (1, 0, 0)), .ref (ad3 (1, 0, 0)), .ref (ad4 (0, 0, 0)), .ref (ad5 (3, 0, 0)), .ref qs, .ref q506, .ref q507, .int 0])), (qs, .inl (am_cA K9 3, 8, .inr (.inr (.inr (.inr (va_up (va_up (fun _ => none) (0 : Int32).toNatClampNeg (some (ad8 (2, 0, 0)))) (1 : Int32).toNatClampNeg (some (ad9 (2, 0, 0)))))))))] := by rw [List.set_append_right _ _ (Nat.le_add_right _ _), Nat.add_sub_cancel_left]; rfl
  rw [es] at hP hD
  refine lv_iinc hx hb dX4_init_103 hl (k := 0) rfl (v := 2) (by decide +kernel) (by decide) rfl (fun ls hl => ?_)
  have hl : lv_has ls 2 [(1, .int 2), (0, .ref h0)] := hl
  refine lv_goto (tgt := 84) hx hb dX4_init_106 rfl ?_
  refine lv_iload_n hx hb dX4_init_84 rfl (lv_at hl 0 rfl) ?_
  refine lv_bipush hx hb dX4_init_85 bp_8 ?_
  refine lv_icmp_ge (tgt := 109) hx hb dX4_init_87 rfl (fun h => absurd h (by decide)) (fun _ => ?_)
  refine lv_aload_n hx hb dX4_init_90 rfl (lv_at hl 1 rfl) ?_
  have hpos : (am_ws K9 am_M0 ++ ([(h0, .inr (4, [.ref (ad1 (1, 0, 0)), .ref (ad2 (1, 0, 0)), .ref (ad3 (1, 0, 0)), .ref (ad4 (0, 0, 0)), .ref (ad5 (3, 0, 0)), .ref qs, .ref q506, .ref q507, .int 0])), (qs, .inl (am_cA K9 3, 8, .inr (.inr (.inr (.inr (va_up (va_up (fun _ => none) (0 : Int32).toNatClampNeg (some (ad8 (2, 0, 0)))) (1 : Int32).toNatClampNeg (some (ad9 (2, 0, 0)))))))))] : va_W))[(am_ws K9 am_M0).length]? = some (h0, .inr (4, [.ref (ad1 (1, 0, 0)), .ref (ad2 (1, 0, 0)), .ref (ad3 (1, 0, 0)), .ref (ad4 (0, 0, 0)), .ref (ad5 (3, 0, 0)), .ref qs, .ref q506, .ref q507, .int 0])) := by rw [List.getElem?_append_right (Nat.le_refl _), Nat.sub_self]; rfl
  refine va_get (D := am_D K9) (ci := 4) (v := .ref qs) (C := RX4) (T := TX4) (N := 9) (own := RX4) hx hb hts fi_X4 hown hK hP _ hpos rfl 5 (by decide) (hts (.fieldLink RX4 38 "AlwaysAhead" "shelves" "[LAlwaysAhead$Shelf;") (am_Tt 191 (by decide +kernel) rfl)) (fun _ h9 => h9) rfl dX4_init_91 ?_
  refine lv_iload_n hx hb dX4_init_94 rfl (lv_at hl 0 rfl) ?_
  refine cn_objN (K := K9) (M := am_M0) (mi := m_X4_init) (mi' := m_X2_init) (host := "AlwaysAhead") (rm := { frames := 1, cells := 1, slots := 40, locals := 60 }) (ci := 2) (N := 4) (mc := 1) (ms := 40) (d := 2) (C := RX2) (T := TX2) (ty0 := tyX2) (df := [.int 0, .int 0, .int 0, .null]) (NL := am_dom_X2_init) hx hb (hml.trans hl.1.symm) hts hown hK hFw dX4_init_95 dX4_init_98 dX4_init_99 fi_X2 tyX2_ok rfl (am_Tt 162 (by decide +kernel) rfl) (am_Tt 164 (by decide +kernel) rfl) (am_Tt 5 (by decide +kernel) rfl) (by decide +kernel) hFw.2.2.2.2.2.2.2 (am_Tt 166 (by decide +kernel) rfl) rfl rfl cb_X2_init (fun h0 sz => by rw [ed, ec]; exact c_X2_init l D cA h0 sz) (by decide +kernel) (Nat.le_of_ble_eq_true rfl) (Nat.le_of_ble_eq_true rfl) (Nat.le_of_ble_eq_true rfl) (by decide +kernel) (by decide +kernel) (by rw [eo]; exact fun _ => rfl) (fun _ _ _ => rfl) (fun _ _ _ => rfl) (by rw [hdm]; decide +kernel) hP hD hS hA (fun q ad10 H locs hq hP hD hS => ?_)
  subst hq
  have hP : va_P (am_D (am_extN K9 am_dom_X2_init 2 ad10)) vwCl _ H := hP
  generalize hK10 : am_extN K9 am_dom_X2_init 2 ad10 = K10 at hP hD
  have hdm : am_dom K10 = [(203, 0, 0), (204, 0, 0), (205, 0, 0), (208, 0, 0), (210, 0, 0), (211, 0, 0), (212, 0, 0), (1, 0, 0), (203, 1, 0), (204, 1, 0), (205, 1, 0), (208, 1, 0), (210, 1, 0), (211, 1, 0), (212, 1, 0), (1, 1, 0), (203, 2, 0), (204, 2, 0), (205, 2, 0), (208, 2, 0), (210, 2, 0), (211, 2, 0), (212, 2, 0), (1, 2, 0), (102, 0, 0), (103, 0, 0), (104, 0, 0), (105, 0, 0), (106, 0, 0), (107, 0, 0), (0, 0, 0), (402, 0, 0), (3, 0, 0), (506, 0, 0), (507, 0, 0), (303, 0, 0), (2, 0, 0), (303, 1, 0), (2, 1, 0), (303, 2, 0), (2, 2, 0)] := by rw [← hK10]; show am_dom K9 ++ am_dom_X2_init.map (am_ren 2) = _; rw [hdm]; decide +kernel
  have ea10 : am_ad K10 = fun r => if r ∈ am_dom_X2_init.map (am_ren 2) then ad10 (r.1, 0, r.2.2) else am_ad K9 r := by rw [← hK10]; rfl
  have hK : va_K (am_D K10) vwCl (am_tys K10) s := by rw [← hK10]; exact hK
  have ed : am_D K10 = D := by rw [← hK10]; exact ed
  have ec : am_cA K10 = cA := by rw [← hK10]; exact ec
  have el : am_l K10 = l := by rw [← hK10]; exact el
  have eo : am_opq K10 = fun _ _ => .null := by rw [← hK10]; exact eo
  have eC : am_cA K10 = am_cA K9 := by rw [← hK10]; rfl
  rw [← eC] at hP hD
  have hP : va_P (am_D K10) vwCl (am_ws K10 am_M0 ++ [(h0, .inr (4, [.ref (ad1 (1, 0, 0)), .ref (ad2 (1, 0, 0)), .ref (ad3 (1, 0, 0)), .ref (ad4 (0, 0, 0)), .ref (ad5 (3, 0, 0)), .ref qs, .ref q506, .ref q507, .int 0])), (qs, .inl (am_cA K10 3, 8, .inr (.inr (.inr (.inr (va_up (va_up (fun _ => none) (0 : Int32).toNatClampNeg (some (ad8 (2, 0, 0)))) (1 : Int32).toNatClampNeg (some (ad9 (2, 0, 0)))))))))]) H := hP
  have hD : va_D A (am_ws K10 am_M0 ++ [(h0, .inr (4, [.ref (ad1 (1, 0, 0)), .ref (ad2 (1, 0, 0)), .ref (ad3 (1, 0, 0)), .ref (ad4 (0, 0, 0)), .ref (ad5 (3, 0, 0)), .ref qs, .ref q506, .ref q507, .int 0])), (qs, .inl (am_cA K10 3, 8, .inr (.inr (.inr (.inr (va_up (va_up (fun _ => none) (0 : Int32).toNatClampNeg (some (ad8 (2, 0, 0)))) (1 : Int32).toNatClampNeg (some (ad9 (2, 0, 0)))))))))]) := hD
  obtain ⟨qk, hqk⟩ := am_place (K := K10) (q := (2, 2, 0)) (by rw [hdm]; decide +kernel)
  have hqa : am_ad K10 (2, 2, 0) = ad10 (2, 0, 0) := by rw [ea10]; rfl
  have hqw := am_wsK am_M0 hqk
  rw [am_e_obj sh_2, hqa] at hqw
  have hqw2 : (am_ws K10 am_M0 ++ ([(h0, .inr (4, [.ref (ad1 (1, 0, 0)), .ref (ad2 (1, 0, 0)), .ref (ad3 (1, 0, 0)), .ref (ad4 (0, 0, 0)), .ref (ad5 (3, 0, 0)), .ref qs, .ref q506, .ref q507, .int 0])), (qs, .inl (am_cA K10 3, 8, .inr (.inr (.inr (.inr (va_up (va_up (fun _ => none) (0 : Int32).toNatClampNeg (some (ad8 (2, 0, 0)))) (1 : Int32).toNatClampNeg (some (ad9 (2, 0, 0)))))))))] : va_W))[qk]? = some (ad10 (2, 0, 0), .inr (2, (List.range 4).map (fun j => am_fv K10 am_M0 (2, 2, 0) j (am_f2 j)))) := by rw [List.getElem?_append_left (List.getElem?_eq_some_iff.mp hqw).1]; exact hqw
  have hpos2 : (am_ws K10 am_M0 ++ ([(h0, .inr (4, [.ref (ad1 (1, 0, 0)), .ref (ad2 (1, 0, 0)), .ref (ad3 (1, 0, 0)), .ref (ad4 (0, 0, 0)), .ref (ad5 (3, 0, 0)), .ref qs, .ref q506, .ref q507, .int 0])), (qs, .inl (am_cA K10 3, 8, .inr (.inr (.inr (.inr (va_up (va_up (fun _ => none) (0 : Int32).toNatClampNeg (some (ad8 (2, 0, 0)))) (1 : Int32).toNatClampNeg (some (ad9 (2, 0, 0)))))))))] : va_W))[(am_ws K10 am_M0).length + 1]? = some (qs, .inl (am_cA K10 3, 8, .inr (.inr (.inr (.inr (va_up (va_up (fun _ => none) (0 : Int32).toNatClampNeg (some (ad8 (2, 0, 0)))) (1 : Int32).toNatClampNeg (some (ad9 (2, 0, 0))))))))) := by rw [List.getElem?_append_right (Nat.le_add_right _ _), Nat.add_sub_cancel_left]; rfl
  refine va_astq (D := am_D K10) (cl := vwCl) (tys := am_tys K10) (r := (RX2, TX2, 4)) (A := A) (H0 := s.heap) hx hb hK hP hD hS ((am_ws K10 am_M0).length + 1) 3 qk 2 hpos2 rfl hqw2 rfl (i := 2) (am_inbE (by decide +kernel)) dX4_init_102 (fun H locs hP hD hS => ?_)
  have es : (am_ws K10 am_M0 ++ ([(h0, .inr (4, [.ref (ad1 (1, 0, 0)), .ref (ad2 (1, 0, 0)), .ref (ad3 (1, 0, 0)), .ref (ad4 (0, 0, 0)), .ref (ad5 (3, 0, 0)), .ref qs, .ref q506, .ref q507, .int 0])), (qs, .inl (am_cA K10 3, 8, .inr (.inr (.inr (.inr (va_up (va_up (fun _ => none) (0 : Int32).toNatClampNeg (some (ad8 (2, 0, 0)))) (1 : Int32).toNatClampNeg (some (ad9 (2, 0, 0)))))))))] : va_W)).set ((am_ws K10 am_M0).length + 1) (qs, .inl (am_cA K10 3, 8, .inr (.inr (.inr (.inr (va_up (va_up (va_up (fun _ => none) (0 : Int32).toNatClampNeg (some (ad8 (2, 0, 0)))) (1 : Int32).toNatClampNeg (some (ad9 (2, 0, 0)))) (2 : Int32).toNatClampNeg (some (ad10 (2, 0, 0))))))))) = am_ws K10 am_M0 ++ [(h0, .inr (4, [.ref (ad1 (1, 0, 0)), .ref (ad2 (1, 0, 0)), .ref (ad3 (1, 0, 0)), .ref (ad4 (0, 0, 0)), .ref (ad5 (3, 0, 0)), .ref qs, .ref q506, .ref q507, .int 0])), (qs, .inl (am_cA K10 3, 8, .inr (.inr (.inr (.inr (va_up (va_up (va_up (fun _ => none) (0 : Int32).toNatClampNeg (some (ad8 (2, 0, 0)))) (1 : Int32).toNatClampNeg (some (ad9 (2, 0, 0)))) (2 : Int32).toNatClampNeg (some (ad10 (2, 0, 0)))))))))] := by rw [List.set_append_right _ _ (Nat.le_add_right _ _), Nat.add_sub_cancel_left]; rfl
  rw [es] at hP hD
  refine lv_iinc hx hb dX4_init_103 hl (k := 0) rfl (v := 3) (by decide +kernel) (by decide) rfl (fun ls hl => ?_)
  have hl : lv_has ls 2 [(1, .int 3), (0, .ref h0)] := hl
  refine lv_goto (tgt := 84) hx hb dX4_init_106 rfl ?_
  refine lv_iload_n hx hb dX4_init_84 rfl (lv_at hl 0 rfl) ?_
  refine lv_bipush hx hb dX4_init_85 bp_8 ?_
  refine lv_icmp_ge (tgt := 109) hx hb dX4_init_87 rfl (fun h => absurd h (by decide)) (fun _ => ?_)
  refine lv_aload_n hx hb dX4_init_90 rfl (lv_at hl 1 rfl) ?_
  have hpos : (am_ws K10 am_M0 ++ ([(h0, .inr (4, [.ref (ad1 (1, 0, 0)), .ref (ad2 (1, 0, 0)), .ref (ad3 (1, 0, 0)), .ref (ad4 (0, 0, 0)), .ref (ad5 (3, 0, 0)), .ref qs, .ref q506, .ref q507, .int 0])), (qs, .inl (am_cA K10 3, 8, .inr (.inr (.inr (.inr (va_up (va_up (va_up (fun _ => none) (0 : Int32).toNatClampNeg (some (ad8 (2, 0, 0)))) (1 : Int32).toNatClampNeg (some (ad9 (2, 0, 0)))) (2 : Int32).toNatClampNeg (some (ad10 (2, 0, 0)))))))))] : va_W))[(am_ws K10 am_M0).length]? = some (h0, .inr (4, [.ref (ad1 (1, 0, 0)), .ref (ad2 (1, 0, 0)), .ref (ad3 (1, 0, 0)), .ref (ad4 (0, 0, 0)), .ref (ad5 (3, 0, 0)), .ref qs, .ref q506, .ref q507, .int 0])) := by rw [List.getElem?_append_right (Nat.le_refl _), Nat.sub_self]; rfl
  refine va_get (D := am_D K10) (ci := 4) (v := .ref qs) (C := RX4) (T := TX4) (N := 9) (own := RX4) hx hb hts fi_X4 hown hK hP _ hpos rfl 5 (by decide) (hts (.fieldLink RX4 38 "AlwaysAhead" "shelves" "[LAlwaysAhead$Shelf;") (am_Tt 191 (by decide +kernel) rfl)) (fun _ h9 => h9) rfl dX4_init_91 ?_
  refine lv_iload_n hx hb dX4_init_94 rfl (lv_at hl 0 rfl) ?_
  refine cn_objN (K := K10) (M := am_M0) (mi := m_X4_init) (mi' := m_X2_init) (host := "AlwaysAhead") (rm := { frames := 1, cells := 1, slots := 40, locals := 60 }) (ci := 2) (N := 4) (mc := 1) (ms := 40) (d := 3) (C := RX2) (T := TX2) (ty0 := tyX2) (df := [.int 0, .int 0, .int 0, .null]) (NL := am_dom_X2_init) hx hb (hml.trans hl.1.symm) hts hown hK hFw dX4_init_95 dX4_init_98 dX4_init_99 fi_X2 tyX2_ok rfl (am_Tt 162 (by decide +kernel) rfl) (am_Tt 164 (by decide +kernel) rfl) (am_Tt 5 (by decide +kernel) rfl) (by decide +kernel) hFw.2.2.2.2.2.2.2 (am_Tt 166 (by decide +kernel) rfl) rfl rfl cb_X2_init (fun h0 sz => by rw [ed, ec]; exact c_X2_init l D cA h0 sz) (by decide +kernel) (Nat.le_of_ble_eq_true rfl) (Nat.le_of_ble_eq_true rfl) (Nat.le_of_ble_eq_true rfl) (by decide +kernel) (by decide +kernel) (by rw [eo]; exact fun _ => rfl) (fun _ _ _ => rfl) (fun _ _ _ => rfl) (by rw [hdm]; decide +kernel) hP hD hS hA (fun q ad11 H locs hq hP hD hS => ?_)
  subst hq
  have hP : va_P (am_D (am_extN K10 am_dom_X2_init 3 ad11)) vwCl _ H := hP
  generalize hK11 : am_extN K10 am_dom_X2_init 3 ad11 = K11 at hP hD
  have hdm : am_dom K11 = [(203, 0, 0), (204, 0, 0), (205, 0, 0), (208, 0, 0), (210, 0, 0), (211, 0, 0), (212, 0, 0), (1, 0, 0), (203, 1, 0), (204, 1, 0), (205, 1, 0), (208, 1, 0), (210, 1, 0), (211, 1, 0), (212, 1, 0), (1, 1, 0), (203, 2, 0), (204, 2, 0), (205, 2, 0), (208, 2, 0), (210, 2, 0), (211, 2, 0), (212, 2, 0), (1, 2, 0), (102, 0, 0), (103, 0, 0), (104, 0, 0), (105, 0, 0), (106, 0, 0), (107, 0, 0), (0, 0, 0), (402, 0, 0), (3, 0, 0), (506, 0, 0), (507, 0, 0), (303, 0, 0), (2, 0, 0), (303, 1, 0), (2, 1, 0), (303, 2, 0), (2, 2, 0), (303, 3, 0), (2, 3, 0)] := by rw [← hK11]; show am_dom K10 ++ am_dom_X2_init.map (am_ren 3) = _; rw [hdm]; decide +kernel
  have ea11 : am_ad K11 = fun r => if r ∈ am_dom_X2_init.map (am_ren 3) then ad11 (r.1, 0, r.2.2) else am_ad K10 r := by rw [← hK11]; rfl
  have hK : va_K (am_D K11) vwCl (am_tys K11) s := by rw [← hK11]; exact hK
  have ed : am_D K11 = D := by rw [← hK11]; exact ed
  have ec : am_cA K11 = cA := by rw [← hK11]; exact ec
  have el : am_l K11 = l := by rw [← hK11]; exact el
  have eo : am_opq K11 = fun _ _ => .null := by rw [← hK11]; exact eo
  have eC : am_cA K11 = am_cA K10 := by rw [← hK11]; rfl
  rw [← eC] at hP hD
  have hP : va_P (am_D K11) vwCl (am_ws K11 am_M0 ++ [(h0, .inr (4, [.ref (ad1 (1, 0, 0)), .ref (ad2 (1, 0, 0)), .ref (ad3 (1, 0, 0)), .ref (ad4 (0, 0, 0)), .ref (ad5 (3, 0, 0)), .ref qs, .ref q506, .ref q507, .int 0])), (qs, .inl (am_cA K11 3, 8, .inr (.inr (.inr (.inr (va_up (va_up (va_up (fun _ => none) (0 : Int32).toNatClampNeg (some (ad8 (2, 0, 0)))) (1 : Int32).toNatClampNeg (some (ad9 (2, 0, 0)))) (2 : Int32).toNatClampNeg (some (ad10 (2, 0, 0)))))))))]) H := hP
  have hD : va_D A (am_ws K11 am_M0 ++ [(h0, .inr (4, [.ref (ad1 (1, 0, 0)), .ref (ad2 (1, 0, 0)), .ref (ad3 (1, 0, 0)), .ref (ad4 (0, 0, 0)), .ref (ad5 (3, 0, 0)), .ref qs, .ref q506, .ref q507, .int 0])), (qs, .inl (am_cA K11 3, 8, .inr (.inr (.inr (.inr (va_up (va_up (va_up (fun _ => none) (0 : Int32).toNatClampNeg (some (ad8 (2, 0, 0)))) (1 : Int32).toNatClampNeg (some (ad9 (2, 0, 0)))) (2 : Int32).toNatClampNeg (some (ad10 (2, 0, 0)))))))))]) := hD
  obtain ⟨qk, hqk⟩ := am_place (K := K11) (q := (2, 3, 0)) (by rw [hdm]; decide +kernel)
  have hqa : am_ad K11 (2, 3, 0) = ad11 (2, 0, 0) := by rw [ea11]; rfl
  have hqw := am_wsK am_M0 hqk
  rw [am_e_obj sh_2, hqa] at hqw
  have hqw2 : (am_ws K11 am_M0 ++ ([(h0, .inr (4, [.ref (ad1 (1, 0, 0)), .ref (ad2 (1, 0, 0)), .ref (ad3 (1, 0, 0)), .ref (ad4 (0, 0, 0)), .ref (ad5 (3, 0, 0)), .ref qs, .ref q506, .ref q507, .int 0])), (qs, .inl (am_cA K11 3, 8, .inr (.inr (.inr (.inr (va_up (va_up (va_up (fun _ => none) (0 : Int32).toNatClampNeg (some (ad8 (2, 0, 0)))) (1 : Int32).toNatClampNeg (some (ad9 (2, 0, 0)))) (2 : Int32).toNatClampNeg (some (ad10 (2, 0, 0)))))))))] : va_W))[qk]? = some (ad11 (2, 0, 0), .inr (2, (List.range 4).map (fun j => am_fv K11 am_M0 (2, 3, 0) j (am_f2 j)))) := by rw [List.getElem?_append_left (List.getElem?_eq_some_iff.mp hqw).1]; exact hqw
  have hpos2 : (am_ws K11 am_M0 ++ ([(h0, .inr (4, [.ref (ad1 (1, 0, 0)), .ref (ad2 (1, 0, 0)), .ref (ad3 (1, 0, 0)), .ref (ad4 (0, 0, 0)), .ref (ad5 (3, 0, 0)), .ref qs, .ref q506, .ref q507, .int 0])), (qs, .inl (am_cA K11 3, 8, .inr (.inr (.inr (.inr (va_up (va_up (va_up (fun _ => none) (0 : Int32).toNatClampNeg (some (ad8 (2, 0, 0)))) (1 : Int32).toNatClampNeg (some (ad9 (2, 0, 0)))) (2 : Int32).toNatClampNeg (some (ad10 (2, 0, 0)))))))))] : va_W))[(am_ws K11 am_M0).length + 1]? = some (qs, .inl (am_cA K11 3, 8, .inr (.inr (.inr (.inr (va_up (va_up (va_up (fun _ => none) (0 : Int32).toNatClampNeg (some (ad8 (2, 0, 0)))) (1 : Int32).toNatClampNeg (some (ad9 (2, 0, 0)))) (2 : Int32).toNatClampNeg (some (ad10 (2, 0, 0))))))))) := by rw [List.getElem?_append_right (Nat.le_add_right _ _), Nat.add_sub_cancel_left]; rfl
  refine va_astq (D := am_D K11) (cl := vwCl) (tys := am_tys K11) (r := (RX2, TX2, 4)) (A := A) (H0 := s.heap) hx hb hK hP hD hS ((am_ws K11 am_M0).length + 1) 3 qk 2 hpos2 rfl hqw2 rfl (i := 3) (am_inbE (by decide +kernel)) dX4_init_102 (fun H locs hP hD hS => ?_)
  have es : (am_ws K11 am_M0 ++ ([(h0, .inr (4, [.ref (ad1 (1, 0, 0)), .ref (ad2 (1, 0, 0)), .ref (ad3 (1, 0, 0)), .ref (ad4 (0, 0, 0)), .ref (ad5 (3, 0, 0)), .ref qs, .ref q506, .ref q507, .int 0])), (qs, .inl (am_cA K11 3, 8, .inr (.inr (.inr (.inr (va_up (va_up (va_up (fun _ => none) (0 : Int32).toNatClampNeg (some (ad8 (2, 0, 0)))) (1 : Int32).toNatClampNeg (some (ad9 (2, 0, 0)))) (2 : Int32).toNatClampNeg (some (ad10 (2, 0, 0)))))))))] : va_W)).set ((am_ws K11 am_M0).length + 1) (qs, .inl (am_cA K11 3, 8, .inr (.inr (.inr (.inr (va_up (va_up (va_up (va_up (fun _ => none) (0 : Int32).toNatClampNeg (some (ad8 (2, 0, 0)))) (1 : Int32).toNatClampNeg (some (ad9 (2, 0, 0)))) (2 : Int32).toNatClampNeg (some (ad10 (2, 0, 0)))) (3 : Int32).toNatClampNeg (some (ad11 (2, 0, 0))))))))) = am_ws K11 am_M0 ++ [(h0, .inr (4, [.ref (ad1 (1, 0, 0)), .ref (ad2 (1, 0, 0)), .ref (ad3 (1, 0, 0)), .ref (ad4 (0, 0, 0)), .ref (ad5 (3, 0, 0)), .ref qs, .ref q506, .ref q507, .int 0])), (qs, .inl (am_cA K11 3, 8, .inr (.inr (.inr (.inr (va_up (va_up (va_up (va_up (fun _ => none) (0 : Int32).toNatClampNeg (some (ad8 (2, 0, 0)))) (1 : Int32).toNatClampNeg (some (ad9 (2, 0, 0)))) (2 : Int32).toNatClampNeg (some (ad10 (2, 0, 0)))) (3 : Int32).toNatClampNeg (some (ad11 (2, 0, 0)))))))))] := by rw [List.set_append_right _ _ (Nat.le_add_right _ _), Nat.add_sub_cancel_left]; rfl
  rw [es] at hP hD
  refine lv_iinc hx hb dX4_init_103 hl (k := 0) rfl (v := 4) (by decide +kernel) (by decide) rfl (fun ls hl => ?_)
  have hl : lv_has ls 2 [(1, .int 4), (0, .ref h0)] := hl
  refine lv_goto (tgt := 84) hx hb dX4_init_106 rfl ?_
  refine lv_iload_n hx hb dX4_init_84 rfl (lv_at hl 0 rfl) ?_
  refine lv_bipush hx hb dX4_init_85 bp_8 ?_
  refine lv_icmp_ge (tgt := 109) hx hb dX4_init_87 rfl (fun h => absurd h (by decide)) (fun _ => ?_)
  refine lv_aload_n hx hb dX4_init_90 rfl (lv_at hl 1 rfl) ?_
  have hpos : (am_ws K11 am_M0 ++ ([(h0, .inr (4, [.ref (ad1 (1, 0, 0)), .ref (ad2 (1, 0, 0)), .ref (ad3 (1, 0, 0)), .ref (ad4 (0, 0, 0)), .ref (ad5 (3, 0, 0)), .ref qs, .ref q506, .ref q507, .int 0])), (qs, .inl (am_cA K11 3, 8, .inr (.inr (.inr (.inr (va_up (va_up (va_up (va_up (fun _ => none) (0 : Int32).toNatClampNeg (some (ad8 (2, 0, 0)))) (1 : Int32).toNatClampNeg (some (ad9 (2, 0, 0)))) (2 : Int32).toNatClampNeg (some (ad10 (2, 0, 0)))) (3 : Int32).toNatClampNeg (some (ad11 (2, 0, 0)))))))))] : va_W))[(am_ws K11 am_M0).length]? = some (h0, .inr (4, [.ref (ad1 (1, 0, 0)), .ref (ad2 (1, 0, 0)), .ref (ad3 (1, 0, 0)), .ref (ad4 (0, 0, 0)), .ref (ad5 (3, 0, 0)), .ref qs, .ref q506, .ref q507, .int 0])) := by rw [List.getElem?_append_right (Nat.le_refl _), Nat.sub_self]; rfl
  refine va_get (D := am_D K11) (ci := 4) (v := .ref qs) (C := RX4) (T := TX4) (N := 9) (own := RX4) hx hb hts fi_X4 hown hK hP _ hpos rfl 5 (by decide) (hts (.fieldLink RX4 38 "AlwaysAhead" "shelves" "[LAlwaysAhead$Shelf;") (am_Tt 191 (by decide +kernel) rfl)) (fun _ h9 => h9) rfl dX4_init_91 ?_
  refine lv_iload_n hx hb dX4_init_94 rfl (lv_at hl 0 rfl) ?_
  refine cn_objN (K := K11) (M := am_M0) (mi := m_X4_init) (mi' := m_X2_init) (host := "AlwaysAhead") (rm := { frames := 1, cells := 1, slots := 40, locals := 60 }) (ci := 2) (N := 4) (mc := 1) (ms := 40) (d := 4) (C := RX2) (T := TX2) (ty0 := tyX2) (df := [.int 0, .int 0, .int 0, .null]) (NL := am_dom_X2_init) hx hb (hml.trans hl.1.symm) hts hown hK hFw dX4_init_95 dX4_init_98 dX4_init_99 fi_X2 tyX2_ok rfl (am_Tt 162 (by decide +kernel) rfl) (am_Tt 164 (by decide +kernel) rfl) (am_Tt 5 (by decide +kernel) rfl) (by decide +kernel) hFw.2.2.2.2.2.2.2 (am_Tt 166 (by decide +kernel) rfl) rfl rfl cb_X2_init (fun h0 sz => by rw [ed, ec]; exact c_X2_init l D cA h0 sz) (by decide +kernel) (Nat.le_of_ble_eq_true rfl) (Nat.le_of_ble_eq_true rfl) (Nat.le_of_ble_eq_true rfl) (by decide +kernel) (by decide +kernel) (by rw [eo]; exact fun _ => rfl) (fun _ _ _ => rfl) (fun _ _ _ => rfl) (by rw [hdm]; decide +kernel) hP hD hS hA (fun q ad12 H locs hq hP hD hS => ?_)
  subst hq
  have hP : va_P (am_D (am_extN K11 am_dom_X2_init 4 ad12)) vwCl _ H := hP
  generalize hK12 : am_extN K11 am_dom_X2_init 4 ad12 = K12 at hP hD
  have hdm : am_dom K12 = [(203, 0, 0), (204, 0, 0), (205, 0, 0), (208, 0, 0), (210, 0, 0), (211, 0, 0), (212, 0, 0), (1, 0, 0), (203, 1, 0), (204, 1, 0), (205, 1, 0), (208, 1, 0), (210, 1, 0), (211, 1, 0), (212, 1, 0), (1, 1, 0), (203, 2, 0), (204, 2, 0), (205, 2, 0), (208, 2, 0), (210, 2, 0), (211, 2, 0), (212, 2, 0), (1, 2, 0), (102, 0, 0), (103, 0, 0), (104, 0, 0), (105, 0, 0), (106, 0, 0), (107, 0, 0), (0, 0, 0), (402, 0, 0), (3, 0, 0), (506, 0, 0), (507, 0, 0), (303, 0, 0), (2, 0, 0), (303, 1, 0), (2, 1, 0), (303, 2, 0), (2, 2, 0), (303, 3, 0), (2, 3, 0), (303, 4, 0), (2, 4, 0)] := by rw [← hK12]; show am_dom K11 ++ am_dom_X2_init.map (am_ren 4) = _; rw [hdm]; decide +kernel
  have ea12 : am_ad K12 = fun r => if r ∈ am_dom_X2_init.map (am_ren 4) then ad12 (r.1, 0, r.2.2) else am_ad K11 r := by rw [← hK12]; rfl
  have hK : va_K (am_D K12) vwCl (am_tys K12) s := by rw [← hK12]; exact hK
  have ed : am_D K12 = D := by rw [← hK12]; exact ed
  have ec : am_cA K12 = cA := by rw [← hK12]; exact ec
  have el : am_l K12 = l := by rw [← hK12]; exact el
  have eo : am_opq K12 = fun _ _ => .null := by rw [← hK12]; exact eo
  have eC : am_cA K12 = am_cA K11 := by rw [← hK12]; rfl
  rw [← eC] at hP hD
  have hP : va_P (am_D K12) vwCl (am_ws K12 am_M0 ++ [(h0, .inr (4, [.ref (ad1 (1, 0, 0)), .ref (ad2 (1, 0, 0)), .ref (ad3 (1, 0, 0)), .ref (ad4 (0, 0, 0)), .ref (ad5 (3, 0, 0)), .ref qs, .ref q506, .ref q507, .int 0])), (qs, .inl (am_cA K12 3, 8, .inr (.inr (.inr (.inr (va_up (va_up (va_up (va_up (fun _ => none) (0 : Int32).toNatClampNeg (some (ad8 (2, 0, 0)))) (1 : Int32).toNatClampNeg (some (ad9 (2, 0, 0)))) (2 : Int32).toNatClampNeg (some (ad10 (2, 0, 0)))) (3 : Int32).toNatClampNeg (some (ad11 (2, 0, 0)))))))))]) H := hP
  have hD : va_D A (am_ws K12 am_M0 ++ [(h0, .inr (4, [.ref (ad1 (1, 0, 0)), .ref (ad2 (1, 0, 0)), .ref (ad3 (1, 0, 0)), .ref (ad4 (0, 0, 0)), .ref (ad5 (3, 0, 0)), .ref qs, .ref q506, .ref q507, .int 0])), (qs, .inl (am_cA K12 3, 8, .inr (.inr (.inr (.inr (va_up (va_up (va_up (va_up (fun _ => none) (0 : Int32).toNatClampNeg (some (ad8 (2, 0, 0)))) (1 : Int32).toNatClampNeg (some (ad9 (2, 0, 0)))) (2 : Int32).toNatClampNeg (some (ad10 (2, 0, 0)))) (3 : Int32).toNatClampNeg (some (ad11 (2, 0, 0)))))))))]) := hD
  obtain ⟨qk, hqk⟩ := am_place (K := K12) (q := (2, 4, 0)) (by rw [hdm]; decide +kernel)
  have hqa : am_ad K12 (2, 4, 0) = ad12 (2, 0, 0) := by rw [ea12]; rfl
  have hqw := am_wsK am_M0 hqk
  rw [am_e_obj sh_2, hqa] at hqw
  have hqw2 : (am_ws K12 am_M0 ++ ([(h0, .inr (4, [.ref (ad1 (1, 0, 0)), .ref (ad2 (1, 0, 0)), .ref (ad3 (1, 0, 0)), .ref (ad4 (0, 0, 0)), .ref (ad5 (3, 0, 0)), .ref qs, .ref q506, .ref q507, .int 0])), (qs, .inl (am_cA K12 3, 8, .inr (.inr (.inr (.inr (va_up (va_up (va_up (va_up (fun _ => none) (0 : Int32).toNatClampNeg (some (ad8 (2, 0, 0)))) (1 : Int32).toNatClampNeg (some (ad9 (2, 0, 0)))) (2 : Int32).toNatClampNeg (some (ad10 (2, 0, 0)))) (3 : Int32).toNatClampNeg (some (ad11 (2, 0, 0)))))))))] : va_W))[qk]? = some (ad12 (2, 0, 0), .inr (2, (List.range 4).map (fun j => am_fv K12 am_M0 (2, 4, 0) j (am_f2 j)))) := by rw [List.getElem?_append_left (List.getElem?_eq_some_iff.mp hqw).1]; exact hqw
  have hpos2 : (am_ws K12 am_M0 ++ ([(h0, .inr (4, [.ref (ad1 (1, 0, 0)), .ref (ad2 (1, 0, 0)), .ref (ad3 (1, 0, 0)), .ref (ad4 (0, 0, 0)), .ref (ad5 (3, 0, 0)), .ref qs, .ref q506, .ref q507, .int 0])), (qs, .inl (am_cA K12 3, 8, .inr (.inr (.inr (.inr (va_up (va_up (va_up (va_up (fun _ => none) (0 : Int32).toNatClampNeg (some (ad8 (2, 0, 0)))) (1 : Int32).toNatClampNeg (some (ad9 (2, 0, 0)))) (2 : Int32).toNatClampNeg (some (ad10 (2, 0, 0)))) (3 : Int32).toNatClampNeg (some (ad11 (2, 0, 0)))))))))] : va_W))[(am_ws K12 am_M0).length + 1]? = some (qs, .inl (am_cA K12 3, 8, .inr (.inr (.inr (.inr (va_up (va_up (va_up (va_up (fun _ => none) (0 : Int32).toNatClampNeg (some (ad8 (2, 0, 0)))) (1 : Int32).toNatClampNeg (some (ad9 (2, 0, 0)))) (2 : Int32).toNatClampNeg (some (ad10 (2, 0, 0)))) (3 : Int32).toNatClampNeg (some (ad11 (2, 0, 0))))))))) := by rw [List.getElem?_append_right (Nat.le_add_right _ _), Nat.add_sub_cancel_left]; rfl
  refine va_astq (D := am_D K12) (cl := vwCl) (tys := am_tys K12) (r := (RX2, TX2, 4)) (A := A) (H0 := s.heap) hx hb hK hP hD hS ((am_ws K12 am_M0).length + 1) 3 qk 2 hpos2 rfl hqw2 rfl (i := 4) (am_inbE (by decide +kernel)) dX4_init_102 (fun H locs hP hD hS => ?_)
  have es : (am_ws K12 am_M0 ++ ([(h0, .inr (4, [.ref (ad1 (1, 0, 0)), .ref (ad2 (1, 0, 0)), .ref (ad3 (1, 0, 0)), .ref (ad4 (0, 0, 0)), .ref (ad5 (3, 0, 0)), .ref qs, .ref q506, .ref q507, .int 0])), (qs, .inl (am_cA K12 3, 8, .inr (.inr (.inr (.inr (va_up (va_up (va_up (va_up (fun _ => none) (0 : Int32).toNatClampNeg (some (ad8 (2, 0, 0)))) (1 : Int32).toNatClampNeg (some (ad9 (2, 0, 0)))) (2 : Int32).toNatClampNeg (some (ad10 (2, 0, 0)))) (3 : Int32).toNatClampNeg (some (ad11 (2, 0, 0)))))))))] : va_W)).set ((am_ws K12 am_M0).length + 1) (qs, .inl (am_cA K12 3, 8, .inr (.inr (.inr (.inr (va_up (va_up (va_up (va_up (va_up (fun _ => none) (0 : Int32).toNatClampNeg (some (ad8 (2, 0, 0)))) (1 : Int32).toNatClampNeg (some (ad9 (2, 0, 0)))) (2 : Int32).toNatClampNeg (some (ad10 (2, 0, 0)))) (3 : Int32).toNatClampNeg (some (ad11 (2, 0, 0)))) (4 : Int32).toNatClampNeg (some (ad12 (2, 0, 0))))))))) = am_ws K12 am_M0 ++ [(h0, .inr (4, [.ref (ad1 (1, 0, 0)), .ref (ad2 (1, 0, 0)), .ref (ad3 (1, 0, 0)), .ref (ad4 (0, 0, 0)), .ref (ad5 (3, 0, 0)), .ref qs, .ref q506, .ref q507, .int 0])), (qs, .inl (am_cA K12 3, 8, .inr (.inr (.inr (.inr (va_up (va_up (va_up (va_up (va_up (fun _ => none) (0 : Int32).toNatClampNeg (some (ad8 (2, 0, 0)))) (1 : Int32).toNatClampNeg (some (ad9 (2, 0, 0)))) (2 : Int32).toNatClampNeg (some (ad10 (2, 0, 0)))) (3 : Int32).toNatClampNeg (some (ad11 (2, 0, 0)))) (4 : Int32).toNatClampNeg (some (ad12 (2, 0, 0)))))))))] := by rw [List.set_append_right _ _ (Nat.le_add_right _ _), Nat.add_sub_cancel_left]; rfl
  rw [es] at hP hD
  refine lv_iinc hx hb dX4_init_103 hl (k := 0) rfl (v := 5) (by decide +kernel) (by decide) rfl (fun ls hl => ?_)
  have hl : lv_has ls 2 [(1, .int 5), (0, .ref h0)] := hl
  refine lv_goto (tgt := 84) hx hb dX4_init_106 rfl ?_
  refine lv_iload_n hx hb dX4_init_84 rfl (lv_at hl 0 rfl) ?_
  refine lv_bipush hx hb dX4_init_85 bp_8 ?_
  refine lv_icmp_ge (tgt := 109) hx hb dX4_init_87 rfl (fun h => absurd h (by decide)) (fun _ => ?_)
  refine lv_aload_n hx hb dX4_init_90 rfl (lv_at hl 1 rfl) ?_
  have hpos : (am_ws K12 am_M0 ++ ([(h0, .inr (4, [.ref (ad1 (1, 0, 0)), .ref (ad2 (1, 0, 0)), .ref (ad3 (1, 0, 0)), .ref (ad4 (0, 0, 0)), .ref (ad5 (3, 0, 0)), .ref qs, .ref q506, .ref q507, .int 0])), (qs, .inl (am_cA K12 3, 8, .inr (.inr (.inr (.inr (va_up (va_up (va_up (va_up (va_up (fun _ => none) (0 : Int32).toNatClampNeg (some (ad8 (2, 0, 0)))) (1 : Int32).toNatClampNeg (some (ad9 (2, 0, 0)))) (2 : Int32).toNatClampNeg (some (ad10 (2, 0, 0)))) (3 : Int32).toNatClampNeg (some (ad11 (2, 0, 0)))) (4 : Int32).toNatClampNeg (some (ad12 (2, 0, 0)))))))))] : va_W))[(am_ws K12 am_M0).length]? = some (h0, .inr (4, [.ref (ad1 (1, 0, 0)), .ref (ad2 (1, 0, 0)), .ref (ad3 (1, 0, 0)), .ref (ad4 (0, 0, 0)), .ref (ad5 (3, 0, 0)), .ref qs, .ref q506, .ref q507, .int 0])) := by rw [List.getElem?_append_right (Nat.le_refl _), Nat.sub_self]; rfl
  refine va_get (D := am_D K12) (ci := 4) (v := .ref qs) (C := RX4) (T := TX4) (N := 9) (own := RX4) hx hb hts fi_X4 hown hK hP _ hpos rfl 5 (by decide) (hts (.fieldLink RX4 38 "AlwaysAhead" "shelves" "[LAlwaysAhead$Shelf;") (am_Tt 191 (by decide +kernel) rfl)) (fun _ h9 => h9) rfl dX4_init_91 ?_
  refine lv_iload_n hx hb dX4_init_94 rfl (lv_at hl 0 rfl) ?_
  refine cn_objN (K := K12) (M := am_M0) (mi := m_X4_init) (mi' := m_X2_init) (host := "AlwaysAhead") (rm := { frames := 1, cells := 1, slots := 40, locals := 60 }) (ci := 2) (N := 4) (mc := 1) (ms := 40) (d := 5) (C := RX2) (T := TX2) (ty0 := tyX2) (df := [.int 0, .int 0, .int 0, .null]) (NL := am_dom_X2_init) hx hb (hml.trans hl.1.symm) hts hown hK hFw dX4_init_95 dX4_init_98 dX4_init_99 fi_X2 tyX2_ok rfl (am_Tt 162 (by decide +kernel) rfl) (am_Tt 164 (by decide +kernel) rfl) (am_Tt 5 (by decide +kernel) rfl) (by decide +kernel) hFw.2.2.2.2.2.2.2 (am_Tt 166 (by decide +kernel) rfl) rfl rfl cb_X2_init (fun h0 sz => by rw [ed, ec]; exact c_X2_init l D cA h0 sz) (by decide +kernel) (Nat.le_of_ble_eq_true rfl) (Nat.le_of_ble_eq_true rfl) (Nat.le_of_ble_eq_true rfl) (by decide +kernel) (by decide +kernel) (by rw [eo]; exact fun _ => rfl) (fun _ _ _ => rfl) (fun _ _ _ => rfl) (by rw [hdm]; decide +kernel) hP hD hS hA (fun q ad13 H locs hq hP hD hS => ?_)
  subst hq
  have hP : va_P (am_D (am_extN K12 am_dom_X2_init 5 ad13)) vwCl _ H := hP
  generalize hK13 : am_extN K12 am_dom_X2_init 5 ad13 = K13 at hP hD
  have hdm : am_dom K13 = [(203, 0, 0), (204, 0, 0), (205, 0, 0), (208, 0, 0), (210, 0, 0), (211, 0, 0), (212, 0, 0), (1, 0, 0), (203, 1, 0), (204, 1, 0), (205, 1, 0), (208, 1, 0), (210, 1, 0), (211, 1, 0), (212, 1, 0), (1, 1, 0), (203, 2, 0), (204, 2, 0), (205, 2, 0), (208, 2, 0), (210, 2, 0), (211, 2, 0), (212, 2, 0), (1, 2, 0), (102, 0, 0), (103, 0, 0), (104, 0, 0), (105, 0, 0), (106, 0, 0), (107, 0, 0), (0, 0, 0), (402, 0, 0), (3, 0, 0), (506, 0, 0), (507, 0, 0), (303, 0, 0), (2, 0, 0), (303, 1, 0), (2, 1, 0), (303, 2, 0), (2, 2, 0), (303, 3, 0), (2, 3, 0), (303, 4, 0), (2, 4, 0), (303, 5, 0), (2, 5, 0)] := by rw [← hK13]; show am_dom K12 ++ am_dom_X2_init.map (am_ren 5) = _; rw [hdm]; decide +kernel
  have ea13 : am_ad K13 = fun r => if r ∈ am_dom_X2_init.map (am_ren 5) then ad13 (r.1, 0, r.2.2) else am_ad K12 r := by rw [← hK13]; rfl
  have hK : va_K (am_D K13) vwCl (am_tys K13) s := by rw [← hK13]; exact hK
  have ed : am_D K13 = D := by rw [← hK13]; exact ed
  have ec : am_cA K13 = cA := by rw [← hK13]; exact ec
  have el : am_l K13 = l := by rw [← hK13]; exact el
  have eo : am_opq K13 = fun _ _ => .null := by rw [← hK13]; exact eo
  have eC : am_cA K13 = am_cA K12 := by rw [← hK13]; rfl
  rw [← eC] at hP hD
  have hP : va_P (am_D K13) vwCl (am_ws K13 am_M0 ++ [(h0, .inr (4, [.ref (ad1 (1, 0, 0)), .ref (ad2 (1, 0, 0)), .ref (ad3 (1, 0, 0)), .ref (ad4 (0, 0, 0)), .ref (ad5 (3, 0, 0)), .ref qs, .ref q506, .ref q507, .int 0])), (qs, .inl (am_cA K13 3, 8, .inr (.inr (.inr (.inr (va_up (va_up (va_up (va_up (va_up (fun _ => none) (0 : Int32).toNatClampNeg (some (ad8 (2, 0, 0)))) (1 : Int32).toNatClampNeg (some (ad9 (2, 0, 0)))) (2 : Int32).toNatClampNeg (some (ad10 (2, 0, 0)))) (3 : Int32).toNatClampNeg (some (ad11 (2, 0, 0)))) (4 : Int32).toNatClampNeg (some (ad12 (2, 0, 0)))))))))]) H := hP
  have hD : va_D A (am_ws K13 am_M0 ++ [(h0, .inr (4, [.ref (ad1 (1, 0, 0)), .ref (ad2 (1, 0, 0)), .ref (ad3 (1, 0, 0)), .ref (ad4 (0, 0, 0)), .ref (ad5 (3, 0, 0)), .ref qs, .ref q506, .ref q507, .int 0])), (qs, .inl (am_cA K13 3, 8, .inr (.inr (.inr (.inr (va_up (va_up (va_up (va_up (va_up (fun _ => none) (0 : Int32).toNatClampNeg (some (ad8 (2, 0, 0)))) (1 : Int32).toNatClampNeg (some (ad9 (2, 0, 0)))) (2 : Int32).toNatClampNeg (some (ad10 (2, 0, 0)))) (3 : Int32).toNatClampNeg (some (ad11 (2, 0, 0)))) (4 : Int32).toNatClampNeg (some (ad12 (2, 0, 0)))))))))]) := hD
  obtain ⟨qk, hqk⟩ := am_place (K := K13) (q := (2, 5, 0)) (by rw [hdm]; decide +kernel)
  have hqa : am_ad K13 (2, 5, 0) = ad13 (2, 0, 0) := by rw [ea13]; rfl
  have hqw := am_wsK am_M0 hqk
  rw [am_e_obj sh_2, hqa] at hqw
  have hqw2 : (am_ws K13 am_M0 ++ ([(h0, .inr (4, [.ref (ad1 (1, 0, 0)), .ref (ad2 (1, 0, 0)), .ref (ad3 (1, 0, 0)), .ref (ad4 (0, 0, 0)), .ref (ad5 (3, 0, 0)), .ref qs, .ref q506, .ref q507, .int 0])), (qs, .inl (am_cA K13 3, 8, .inr (.inr (.inr (.inr (va_up (va_up (va_up (va_up (va_up (fun _ => none) (0 : Int32).toNatClampNeg (some (ad8 (2, 0, 0)))) (1 : Int32).toNatClampNeg (some (ad9 (2, 0, 0)))) (2 : Int32).toNatClampNeg (some (ad10 (2, 0, 0)))) (3 : Int32).toNatClampNeg (some (ad11 (2, 0, 0)))) (4 : Int32).toNatClampNeg (some (ad12 (2, 0, 0)))))))))] : va_W))[qk]? = some (ad13 (2, 0, 0), .inr (2, (List.range 4).map (fun j => am_fv K13 am_M0 (2, 5, 0) j (am_f2 j)))) := by rw [List.getElem?_append_left (List.getElem?_eq_some_iff.mp hqw).1]; exact hqw
  have hpos2 : (am_ws K13 am_M0 ++ ([(h0, .inr (4, [.ref (ad1 (1, 0, 0)), .ref (ad2 (1, 0, 0)), .ref (ad3 (1, 0, 0)), .ref (ad4 (0, 0, 0)), .ref (ad5 (3, 0, 0)), .ref qs, .ref q506, .ref q507, .int 0])), (qs, .inl (am_cA K13 3, 8, .inr (.inr (.inr (.inr (va_up (va_up (va_up (va_up (va_up (fun _ => none) (0 : Int32).toNatClampNeg (some (ad8 (2, 0, 0)))) (1 : Int32).toNatClampNeg (some (ad9 (2, 0, 0)))) (2 : Int32).toNatClampNeg (some (ad10 (2, 0, 0)))) (3 : Int32).toNatClampNeg (some (ad11 (2, 0, 0)))) (4 : Int32).toNatClampNeg (some (ad12 (2, 0, 0)))))))))] : va_W))[(am_ws K13 am_M0).length + 1]? = some (qs, .inl (am_cA K13 3, 8, .inr (.inr (.inr (.inr (va_up (va_up (va_up (va_up (va_up (fun _ => none) (0 : Int32).toNatClampNeg (some (ad8 (2, 0, 0)))) (1 : Int32).toNatClampNeg (some (ad9 (2, 0, 0)))) (2 : Int32).toNatClampNeg (some (ad10 (2, 0, 0)))) (3 : Int32).toNatClampNeg (some (ad11 (2, 0, 0)))) (4 : Int32).toNatClampNeg (some (ad12 (2, 0, 0))))))))) := by rw [List.getElem?_append_right (Nat.le_add_right _ _), Nat.add_sub_cancel_left]; rfl
  refine va_astq (D := am_D K13) (cl := vwCl) (tys := am_tys K13) (r := (RX2, TX2, 4)) (A := A) (H0 := s.heap) hx hb hK hP hD hS ((am_ws K13 am_M0).length + 1) 3 qk 2 hpos2 rfl hqw2 rfl (i := 5) (am_inbE (by decide +kernel)) dX4_init_102 (fun H locs hP hD hS => ?_)
  have es : (am_ws K13 am_M0 ++ ([(h0, .inr (4, [.ref (ad1 (1, 0, 0)), .ref (ad2 (1, 0, 0)), .ref (ad3 (1, 0, 0)), .ref (ad4 (0, 0, 0)), .ref (ad5 (3, 0, 0)), .ref qs, .ref q506, .ref q507, .int 0])), (qs, .inl (am_cA K13 3, 8, .inr (.inr (.inr (.inr (va_up (va_up (va_up (va_up (va_up (fun _ => none) (0 : Int32).toNatClampNeg (some (ad8 (2, 0, 0)))) (1 : Int32).toNatClampNeg (some (ad9 (2, 0, 0)))) (2 : Int32).toNatClampNeg (some (ad10 (2, 0, 0)))) (3 : Int32).toNatClampNeg (some (ad11 (2, 0, 0)))) (4 : Int32).toNatClampNeg (some (ad12 (2, 0, 0)))))))))] : va_W)).set ((am_ws K13 am_M0).length + 1) (qs, .inl (am_cA K13 3, 8, .inr (.inr (.inr (.inr (va_up (va_up (va_up (va_up (va_up (va_up (fun _ => none) (0 : Int32).toNatClampNeg (some (ad8 (2, 0, 0)))) (1 : Int32).toNatClampNeg (some (ad9 (2, 0, 0)))) (2 : Int32).toNatClampNeg (some (ad10 (2, 0, 0)))) (3 : Int32).toNatClampNeg (some (ad11 (2, 0, 0)))) (4 : Int32).toNatClampNeg (some (ad12 (2, 0, 0)))) (5 : Int32).toNatClampNeg (some (ad13 (2, 0, 0))))))))) = am_ws K13 am_M0 ++ [(h0, .inr (4, [.ref (ad1 (1, 0, 0)), .ref (ad2 (1, 0, 0)), .ref (ad3 (1, 0, 0)), .ref (ad4 (0, 0, 0)), .ref (ad5 (3, 0, 0)), .ref qs, .ref q506, .ref q507, .int 0])), (qs, .inl (am_cA K13 3, 8, .inr (.inr (.inr (.inr (va_up (va_up (va_up (va_up (va_up (va_up (fun _ => none) (0 : Int32).toNatClampNeg (some (ad8 (2, 0, 0)))) (1 : Int32).toNatClampNeg (some (ad9 (2, 0, 0)))) (2 : Int32).toNatClampNeg (some (ad10 (2, 0, 0)))) (3 : Int32).toNatClampNeg (some (ad11 (2, 0, 0)))) (4 : Int32).toNatClampNeg (some (ad12 (2, 0, 0)))) (5 : Int32).toNatClampNeg (some (ad13 (2, 0, 0)))))))))] := by rw [List.set_append_right _ _ (Nat.le_add_right _ _), Nat.add_sub_cancel_left]; rfl
  rw [es] at hP hD
  refine lv_iinc hx hb dX4_init_103 hl (k := 0) rfl (v := 6) (by decide +kernel) (by decide) rfl (fun ls hl => ?_)
  have hl : lv_has ls 2 [(1, .int 6), (0, .ref h0)] := hl
  refine lv_goto (tgt := 84) hx hb dX4_init_106 rfl ?_
  refine lv_iload_n hx hb dX4_init_84 rfl (lv_at hl 0 rfl) ?_
  refine lv_bipush hx hb dX4_init_85 bp_8 ?_
  refine lv_icmp_ge (tgt := 109) hx hb dX4_init_87 rfl (fun h => absurd h (by decide)) (fun _ => ?_)
  refine lv_aload_n hx hb dX4_init_90 rfl (lv_at hl 1 rfl) ?_
  have hpos : (am_ws K13 am_M0 ++ ([(h0, .inr (4, [.ref (ad1 (1, 0, 0)), .ref (ad2 (1, 0, 0)), .ref (ad3 (1, 0, 0)), .ref (ad4 (0, 0, 0)), .ref (ad5 (3, 0, 0)), .ref qs, .ref q506, .ref q507, .int 0])), (qs, .inl (am_cA K13 3, 8, .inr (.inr (.inr (.inr (va_up (va_up (va_up (va_up (va_up (va_up (fun _ => none) (0 : Int32).toNatClampNeg (some (ad8 (2, 0, 0)))) (1 : Int32).toNatClampNeg (some (ad9 (2, 0, 0)))) (2 : Int32).toNatClampNeg (some (ad10 (2, 0, 0)))) (3 : Int32).toNatClampNeg (some (ad11 (2, 0, 0)))) (4 : Int32).toNatClampNeg (some (ad12 (2, 0, 0)))) (5 : Int32).toNatClampNeg (some (ad13 (2, 0, 0)))))))))] : va_W))[(am_ws K13 am_M0).length]? = some (h0, .inr (4, [.ref (ad1 (1, 0, 0)), .ref (ad2 (1, 0, 0)), .ref (ad3 (1, 0, 0)), .ref (ad4 (0, 0, 0)), .ref (ad5 (3, 0, 0)), .ref qs, .ref q506, .ref q507, .int 0])) := by rw [List.getElem?_append_right (Nat.le_refl _), Nat.sub_self]; rfl
  refine va_get (D := am_D K13) (ci := 4) (v := .ref qs) (C := RX4) (T := TX4) (N := 9) (own := RX4) hx hb hts fi_X4 hown hK hP _ hpos rfl 5 (by decide) (hts (.fieldLink RX4 38 "AlwaysAhead" "shelves" "[LAlwaysAhead$Shelf;") (am_Tt 191 (by decide +kernel) rfl)) (fun _ h9 => h9) rfl dX4_init_91 ?_
  refine lv_iload_n hx hb dX4_init_94 rfl (lv_at hl 0 rfl) ?_
  refine cn_objN (K := K13) (M := am_M0) (mi := m_X4_init) (mi' := m_X2_init) (host := "AlwaysAhead") (rm := { frames := 1, cells := 1, slots := 40, locals := 60 }) (ci := 2) (N := 4) (mc := 1) (ms := 40) (d := 6) (C := RX2) (T := TX2) (ty0 := tyX2) (df := [.int 0, .int 0, .int 0, .null]) (NL := am_dom_X2_init) hx hb (hml.trans hl.1.symm) hts hown hK hFw dX4_init_95 dX4_init_98 dX4_init_99 fi_X2 tyX2_ok rfl (am_Tt 162 (by decide +kernel) rfl) (am_Tt 164 (by decide +kernel) rfl) (am_Tt 5 (by decide +kernel) rfl) (by decide +kernel) hFw.2.2.2.2.2.2.2 (am_Tt 166 (by decide +kernel) rfl) rfl rfl cb_X2_init (fun h0 sz => by rw [ed, ec]; exact c_X2_init l D cA h0 sz) (by decide +kernel) (Nat.le_of_ble_eq_true rfl) (Nat.le_of_ble_eq_true rfl) (Nat.le_of_ble_eq_true rfl) (by decide +kernel) (by decide +kernel) (by rw [eo]; exact fun _ => rfl) (fun _ _ _ => rfl) (fun _ _ _ => rfl) (by rw [hdm]; decide +kernel) hP hD hS hA (fun q ad14 H locs hq hP hD hS => ?_)
  subst hq
  have hP : va_P (am_D (am_extN K13 am_dom_X2_init 6 ad14)) vwCl _ H := hP
  generalize hK14 : am_extN K13 am_dom_X2_init 6 ad14 = K14 at hP hD
  have hdm : am_dom K14 = [(203, 0, 0), (204, 0, 0), (205, 0, 0), (208, 0, 0), (210, 0, 0), (211, 0, 0), (212, 0, 0), (1, 0, 0), (203, 1, 0), (204, 1, 0), (205, 1, 0), (208, 1, 0), (210, 1, 0), (211, 1, 0), (212, 1, 0), (1, 1, 0), (203, 2, 0), (204, 2, 0), (205, 2, 0), (208, 2, 0), (210, 2, 0), (211, 2, 0), (212, 2, 0), (1, 2, 0), (102, 0, 0), (103, 0, 0), (104, 0, 0), (105, 0, 0), (106, 0, 0), (107, 0, 0), (0, 0, 0), (402, 0, 0), (3, 0, 0), (506, 0, 0), (507, 0, 0), (303, 0, 0), (2, 0, 0), (303, 1, 0), (2, 1, 0), (303, 2, 0), (2, 2, 0), (303, 3, 0), (2, 3, 0), (303, 4, 0), (2, 4, 0), (303, 5, 0), (2, 5, 0), (303, 6, 0), (2, 6, 0)] := by rw [← hK14]; show am_dom K13 ++ am_dom_X2_init.map (am_ren 6) = _; rw [hdm]; decide +kernel
  have ea14 : am_ad K14 = fun r => if r ∈ am_dom_X2_init.map (am_ren 6) then ad14 (r.1, 0, r.2.2) else am_ad K13 r := by rw [← hK14]; rfl
  have hK : va_K (am_D K14) vwCl (am_tys K14) s := by rw [← hK14]; exact hK
  have ed : am_D K14 = D := by rw [← hK14]; exact ed
  have ec : am_cA K14 = cA := by rw [← hK14]; exact ec
  have el : am_l K14 = l := by rw [← hK14]; exact el
  have eo : am_opq K14 = fun _ _ => .null := by rw [← hK14]; exact eo
  have eC : am_cA K14 = am_cA K13 := by rw [← hK14]; rfl
  rw [← eC] at hP hD
  have hP : va_P (am_D K14) vwCl (am_ws K14 am_M0 ++ [(h0, .inr (4, [.ref (ad1 (1, 0, 0)), .ref (ad2 (1, 0, 0)), .ref (ad3 (1, 0, 0)), .ref (ad4 (0, 0, 0)), .ref (ad5 (3, 0, 0)), .ref qs, .ref q506, .ref q507, .int 0])), (qs, .inl (am_cA K14 3, 8, .inr (.inr (.inr (.inr (va_up (va_up (va_up (va_up (va_up (va_up (fun _ => none) (0 : Int32).toNatClampNeg (some (ad8 (2, 0, 0)))) (1 : Int32).toNatClampNeg (some (ad9 (2, 0, 0)))) (2 : Int32).toNatClampNeg (some (ad10 (2, 0, 0)))) (3 : Int32).toNatClampNeg (some (ad11 (2, 0, 0)))) (4 : Int32).toNatClampNeg (some (ad12 (2, 0, 0)))) (5 : Int32).toNatClampNeg (some (ad13 (2, 0, 0)))))))))]) H := hP
  have hD : va_D A (am_ws K14 am_M0 ++ [(h0, .inr (4, [.ref (ad1 (1, 0, 0)), .ref (ad2 (1, 0, 0)), .ref (ad3 (1, 0, 0)), .ref (ad4 (0, 0, 0)), .ref (ad5 (3, 0, 0)), .ref qs, .ref q506, .ref q507, .int 0])), (qs, .inl (am_cA K14 3, 8, .inr (.inr (.inr (.inr (va_up (va_up (va_up (va_up (va_up (va_up (fun _ => none) (0 : Int32).toNatClampNeg (some (ad8 (2, 0, 0)))) (1 : Int32).toNatClampNeg (some (ad9 (2, 0, 0)))) (2 : Int32).toNatClampNeg (some (ad10 (2, 0, 0)))) (3 : Int32).toNatClampNeg (some (ad11 (2, 0, 0)))) (4 : Int32).toNatClampNeg (some (ad12 (2, 0, 0)))) (5 : Int32).toNatClampNeg (some (ad13 (2, 0, 0)))))))))]) := hD
  obtain ⟨qk, hqk⟩ := am_place (K := K14) (q := (2, 6, 0)) (by rw [hdm]; decide +kernel)
  have hqa : am_ad K14 (2, 6, 0) = ad14 (2, 0, 0) := by rw [ea14]; rfl
  have hqw := am_wsK am_M0 hqk
  rw [am_e_obj sh_2, hqa] at hqw
  have hqw2 : (am_ws K14 am_M0 ++ ([(h0, .inr (4, [.ref (ad1 (1, 0, 0)), .ref (ad2 (1, 0, 0)), .ref (ad3 (1, 0, 0)), .ref (ad4 (0, 0, 0)), .ref (ad5 (3, 0, 0)), .ref qs, .ref q506, .ref q507, .int 0])), (qs, .inl (am_cA K14 3, 8, .inr (.inr (.inr (.inr (va_up (va_up (va_up (va_up (va_up (va_up (fun _ => none) (0 : Int32).toNatClampNeg (some (ad8 (2, 0, 0)))) (1 : Int32).toNatClampNeg (some (ad9 (2, 0, 0)))) (2 : Int32).toNatClampNeg (some (ad10 (2, 0, 0)))) (3 : Int32).toNatClampNeg (some (ad11 (2, 0, 0)))) (4 : Int32).toNatClampNeg (some (ad12 (2, 0, 0)))) (5 : Int32).toNatClampNeg (some (ad13 (2, 0, 0)))))))))] : va_W))[qk]? = some (ad14 (2, 0, 0), .inr (2, (List.range 4).map (fun j => am_fv K14 am_M0 (2, 6, 0) j (am_f2 j)))) := by rw [List.getElem?_append_left (List.getElem?_eq_some_iff.mp hqw).1]; exact hqw
  have hpos2 : (am_ws K14 am_M0 ++ ([(h0, .inr (4, [.ref (ad1 (1, 0, 0)), .ref (ad2 (1, 0, 0)), .ref (ad3 (1, 0, 0)), .ref (ad4 (0, 0, 0)), .ref (ad5 (3, 0, 0)), .ref qs, .ref q506, .ref q507, .int 0])), (qs, .inl (am_cA K14 3, 8, .inr (.inr (.inr (.inr (va_up (va_up (va_up (va_up (va_up (va_up (fun _ => none) (0 : Int32).toNatClampNeg (some (ad8 (2, 0, 0)))) (1 : Int32).toNatClampNeg (some (ad9 (2, 0, 0)))) (2 : Int32).toNatClampNeg (some (ad10 (2, 0, 0)))) (3 : Int32).toNatClampNeg (some (ad11 (2, 0, 0)))) (4 : Int32).toNatClampNeg (some (ad12 (2, 0, 0)))) (5 : Int32).toNatClampNeg (some (ad13 (2, 0, 0)))))))))] : va_W))[(am_ws K14 am_M0).length + 1]? = some (qs, .inl (am_cA K14 3, 8, .inr (.inr (.inr (.inr (va_up (va_up (va_up (va_up (va_up (va_up (fun _ => none) (0 : Int32).toNatClampNeg (some (ad8 (2, 0, 0)))) (1 : Int32).toNatClampNeg (some (ad9 (2, 0, 0)))) (2 : Int32).toNatClampNeg (some (ad10 (2, 0, 0)))) (3 : Int32).toNatClampNeg (some (ad11 (2, 0, 0)))) (4 : Int32).toNatClampNeg (some (ad12 (2, 0, 0)))) (5 : Int32).toNatClampNeg (some (ad13 (2, 0, 0))))))))) := by rw [List.getElem?_append_right (Nat.le_add_right _ _), Nat.add_sub_cancel_left]; rfl
  refine va_astq (D := am_D K14) (cl := vwCl) (tys := am_tys K14) (r := (RX2, TX2, 4)) (A := A) (H0 := s.heap) hx hb hK hP hD hS ((am_ws K14 am_M0).length + 1) 3 qk 2 hpos2 rfl hqw2 rfl (i := 6) (am_inbE (by decide +kernel)) dX4_init_102 (fun H locs hP hD hS => ?_)
  have es : (am_ws K14 am_M0 ++ ([(h0, .inr (4, [.ref (ad1 (1, 0, 0)), .ref (ad2 (1, 0, 0)), .ref (ad3 (1, 0, 0)), .ref (ad4 (0, 0, 0)), .ref (ad5 (3, 0, 0)), .ref qs, .ref q506, .ref q507, .int 0])), (qs, .inl (am_cA K14 3, 8, .inr (.inr (.inr (.inr (va_up (va_up (va_up (va_up (va_up (va_up (fun _ => none) (0 : Int32).toNatClampNeg (some (ad8 (2, 0, 0)))) (1 : Int32).toNatClampNeg (some (ad9 (2, 0, 0)))) (2 : Int32).toNatClampNeg (some (ad10 (2, 0, 0)))) (3 : Int32).toNatClampNeg (some (ad11 (2, 0, 0)))) (4 : Int32).toNatClampNeg (some (ad12 (2, 0, 0)))) (5 : Int32).toNatClampNeg (some (ad13 (2, 0, 0)))))))))] : va_W)).set ((am_ws K14 am_M0).length + 1) (qs, .inl (am_cA K14 3, 8, .inr (.inr (.inr (.inr (va_up (va_up (va_up (va_up (va_up (va_up (va_up (fun _ => none) (0 : Int32).toNatClampNeg (some (ad8 (2, 0, 0)))) (1 : Int32).toNatClampNeg (some (ad9 (2, 0, 0)))) (2 : Int32).toNatClampNeg (some (ad10 (2, 0, 0)))) (3 : Int32).toNatClampNeg (some (ad11 (2, 0, 0)))) (4 : Int32).toNatClampNeg (some (ad12 (2, 0, 0)))) (5 : Int32).toNatClampNeg (some (ad13 (2, 0, 0)))) (6 : Int32).toNatClampNeg (some (ad14 (2, 0, 0))))))))) = am_ws K14 am_M0 ++ [(h0, .inr (4, [.ref (ad1 (1, 0, 0)), .ref (ad2 (1, 0, 0)), .ref (ad3 (1, 0, 0)), .ref (ad4 (0, 0, 0)), .ref (ad5 (3, 0, 0)), .ref qs, .ref q506, .ref q507, .int 0])), (qs, .inl (am_cA K14 3, 8, .inr (.inr (.inr (.inr (va_up (va_up (va_up (va_up (va_up (va_up (va_up (fun _ => none) (0 : Int32).toNatClampNeg (some (ad8 (2, 0, 0)))) (1 : Int32).toNatClampNeg (some (ad9 (2, 0, 0)))) (2 : Int32).toNatClampNeg (some (ad10 (2, 0, 0)))) (3 : Int32).toNatClampNeg (some (ad11 (2, 0, 0)))) (4 : Int32).toNatClampNeg (some (ad12 (2, 0, 0)))) (5 : Int32).toNatClampNeg (some (ad13 (2, 0, 0)))) (6 : Int32).toNatClampNeg (some (ad14 (2, 0, 0)))))))))] := by rw [List.set_append_right _ _ (Nat.le_add_right _ _), Nat.add_sub_cancel_left]; rfl
  rw [es] at hP hD
  refine lv_iinc hx hb dX4_init_103 hl (k := 0) rfl (v := 7) (by decide +kernel) (by decide) rfl (fun ls hl => ?_)
  have hl : lv_has ls 2 [(1, .int 7), (0, .ref h0)] := hl
  refine lv_goto (tgt := 84) hx hb dX4_init_106 rfl ?_
  refine lv_iload_n hx hb dX4_init_84 rfl (lv_at hl 0 rfl) ?_
  refine lv_bipush hx hb dX4_init_85 bp_8 ?_
  refine lv_icmp_ge (tgt := 109) hx hb dX4_init_87 rfl (fun h => absurd h (by decide)) (fun _ => ?_)
  refine lv_aload_n hx hb dX4_init_90 rfl (lv_at hl 1 rfl) ?_
  have hpos : (am_ws K14 am_M0 ++ ([(h0, .inr (4, [.ref (ad1 (1, 0, 0)), .ref (ad2 (1, 0, 0)), .ref (ad3 (1, 0, 0)), .ref (ad4 (0, 0, 0)), .ref (ad5 (3, 0, 0)), .ref qs, .ref q506, .ref q507, .int 0])), (qs, .inl (am_cA K14 3, 8, .inr (.inr (.inr (.inr (va_up (va_up (va_up (va_up (va_up (va_up (va_up (fun _ => none) (0 : Int32).toNatClampNeg (some (ad8 (2, 0, 0)))) (1 : Int32).toNatClampNeg (some (ad9 (2, 0, 0)))) (2 : Int32).toNatClampNeg (some (ad10 (2, 0, 0)))) (3 : Int32).toNatClampNeg (some (ad11 (2, 0, 0)))) (4 : Int32).toNatClampNeg (some (ad12 (2, 0, 0)))) (5 : Int32).toNatClampNeg (some (ad13 (2, 0, 0)))) (6 : Int32).toNatClampNeg (some (ad14 (2, 0, 0)))))))))] : va_W))[(am_ws K14 am_M0).length]? = some (h0, .inr (4, [.ref (ad1 (1, 0, 0)), .ref (ad2 (1, 0, 0)), .ref (ad3 (1, 0, 0)), .ref (ad4 (0, 0, 0)), .ref (ad5 (3, 0, 0)), .ref qs, .ref q506, .ref q507, .int 0])) := by rw [List.getElem?_append_right (Nat.le_refl _), Nat.sub_self]; rfl
  refine va_get (D := am_D K14) (ci := 4) (v := .ref qs) (C := RX4) (T := TX4) (N := 9) (own := RX4) hx hb hts fi_X4 hown hK hP _ hpos rfl 5 (by decide) (hts (.fieldLink RX4 38 "AlwaysAhead" "shelves" "[LAlwaysAhead$Shelf;") (am_Tt 191 (by decide +kernel) rfl)) (fun _ h9 => h9) rfl dX4_init_91 ?_
  refine lv_iload_n hx hb dX4_init_94 rfl (lv_at hl 0 rfl) ?_
  refine cn_objN (K := K14) (M := am_M0) (mi := m_X4_init) (mi' := m_X2_init) (host := "AlwaysAhead") (rm := { frames := 1, cells := 1, slots := 40, locals := 60 }) (ci := 2) (N := 4) (mc := 1) (ms := 40) (d := 7) (C := RX2) (T := TX2) (ty0 := tyX2) (df := [.int 0, .int 0, .int 0, .null]) (NL := am_dom_X2_init) hx hb (hml.trans hl.1.symm) hts hown hK hFw dX4_init_95 dX4_init_98 dX4_init_99 fi_X2 tyX2_ok rfl (am_Tt 162 (by decide +kernel) rfl) (am_Tt 164 (by decide +kernel) rfl) (am_Tt 5 (by decide +kernel) rfl) (by decide +kernel) hFw.2.2.2.2.2.2.2 (am_Tt 166 (by decide +kernel) rfl) rfl rfl cb_X2_init (fun h0 sz => by rw [ed, ec]; exact c_X2_init l D cA h0 sz) (by decide +kernel) (Nat.le_of_ble_eq_true rfl) (Nat.le_of_ble_eq_true rfl) (Nat.le_of_ble_eq_true rfl) (by decide +kernel) (by decide +kernel) (by rw [eo]; exact fun _ => rfl) (fun _ _ _ => rfl) (fun _ _ _ => rfl) (by rw [hdm]; decide +kernel) hP hD hS hA (fun q ad15 H locs hq hP hD hS => ?_)
  subst hq
  have hP : va_P (am_D (am_extN K14 am_dom_X2_init 7 ad15)) vwCl _ H := hP
  generalize hK15 : am_extN K14 am_dom_X2_init 7 ad15 = K15 at hP hD
  have hdm : am_dom K15 = [(203, 0, 0), (204, 0, 0), (205, 0, 0), (208, 0, 0), (210, 0, 0), (211, 0, 0), (212, 0, 0), (1, 0, 0), (203, 1, 0), (204, 1, 0), (205, 1, 0), (208, 1, 0), (210, 1, 0), (211, 1, 0), (212, 1, 0), (1, 1, 0), (203, 2, 0), (204, 2, 0), (205, 2, 0), (208, 2, 0), (210, 2, 0), (211, 2, 0), (212, 2, 0), (1, 2, 0), (102, 0, 0), (103, 0, 0), (104, 0, 0), (105, 0, 0), (106, 0, 0), (107, 0, 0), (0, 0, 0), (402, 0, 0), (3, 0, 0), (506, 0, 0), (507, 0, 0), (303, 0, 0), (2, 0, 0), (303, 1, 0), (2, 1, 0), (303, 2, 0), (2, 2, 0), (303, 3, 0), (2, 3, 0), (303, 4, 0), (2, 4, 0), (303, 5, 0), (2, 5, 0), (303, 6, 0), (2, 6, 0), (303, 7, 0), (2, 7, 0)] := by rw [← hK15]; show am_dom K14 ++ am_dom_X2_init.map (am_ren 7) = _; rw [hdm]; decide +kernel
  have ea15 : am_ad K15 = fun r => if r ∈ am_dom_X2_init.map (am_ren 7) then ad15 (r.1, 0, r.2.2) else am_ad K14 r := by rw [← hK15]; rfl
  have hK : va_K (am_D K15) vwCl (am_tys K15) s := by rw [← hK15]; exact hK
  have ed : am_D K15 = D := by rw [← hK15]; exact ed
  have ec : am_cA K15 = cA := by rw [← hK15]; exact ec
  have el : am_l K15 = l := by rw [← hK15]; exact el
  have eo : am_opq K15 = fun _ _ => .null := by rw [← hK15]; exact eo
  have eC : am_cA K15 = am_cA K14 := by rw [← hK15]; rfl
  rw [← eC] at hP hD
  have hP : va_P (am_D K15) vwCl (am_ws K15 am_M0 ++ [(h0, .inr (4, [.ref (ad1 (1, 0, 0)), .ref (ad2 (1, 0, 0)), .ref (ad3 (1, 0, 0)), .ref (ad4 (0, 0, 0)), .ref (ad5 (3, 0, 0)), .ref qs, .ref q506, .ref q507, .int 0])), (qs, .inl (am_cA K15 3, 8, .inr (.inr (.inr (.inr (va_up (va_up (va_up (va_up (va_up (va_up (va_up (fun _ => none) (0 : Int32).toNatClampNeg (some (ad8 (2, 0, 0)))) (1 : Int32).toNatClampNeg (some (ad9 (2, 0, 0)))) (2 : Int32).toNatClampNeg (some (ad10 (2, 0, 0)))) (3 : Int32).toNatClampNeg (some (ad11 (2, 0, 0)))) (4 : Int32).toNatClampNeg (some (ad12 (2, 0, 0)))) (5 : Int32).toNatClampNeg (some (ad13 (2, 0, 0)))) (6 : Int32).toNatClampNeg (some (ad14 (2, 0, 0)))))))))]) H := hP
  have hD : va_D A (am_ws K15 am_M0 ++ [(h0, .inr (4, [.ref (ad1 (1, 0, 0)), .ref (ad2 (1, 0, 0)), .ref (ad3 (1, 0, 0)), .ref (ad4 (0, 0, 0)), .ref (ad5 (3, 0, 0)), .ref qs, .ref q506, .ref q507, .int 0])), (qs, .inl (am_cA K15 3, 8, .inr (.inr (.inr (.inr (va_up (va_up (va_up (va_up (va_up (va_up (va_up (fun _ => none) (0 : Int32).toNatClampNeg (some (ad8 (2, 0, 0)))) (1 : Int32).toNatClampNeg (some (ad9 (2, 0, 0)))) (2 : Int32).toNatClampNeg (some (ad10 (2, 0, 0)))) (3 : Int32).toNatClampNeg (some (ad11 (2, 0, 0)))) (4 : Int32).toNatClampNeg (some (ad12 (2, 0, 0)))) (5 : Int32).toNatClampNeg (some (ad13 (2, 0, 0)))) (6 : Int32).toNatClampNeg (some (ad14 (2, 0, 0)))))))))]) := hD
  obtain ⟨qk, hqk⟩ := am_place (K := K15) (q := (2, 7, 0)) (by rw [hdm]; decide +kernel)
  have hqa : am_ad K15 (2, 7, 0) = ad15 (2, 0, 0) := by rw [ea15]; rfl
  have hqw := am_wsK am_M0 hqk
  rw [am_e_obj sh_2, hqa] at hqw
  have hqw2 : (am_ws K15 am_M0 ++ ([(h0, .inr (4, [.ref (ad1 (1, 0, 0)), .ref (ad2 (1, 0, 0)), .ref (ad3 (1, 0, 0)), .ref (ad4 (0, 0, 0)), .ref (ad5 (3, 0, 0)), .ref qs, .ref q506, .ref q507, .int 0])), (qs, .inl (am_cA K15 3, 8, .inr (.inr (.inr (.inr (va_up (va_up (va_up (va_up (va_up (va_up (va_up (fun _ => none) (0 : Int32).toNatClampNeg (some (ad8 (2, 0, 0)))) (1 : Int32).toNatClampNeg (some (ad9 (2, 0, 0)))) (2 : Int32).toNatClampNeg (some (ad10 (2, 0, 0)))) (3 : Int32).toNatClampNeg (some (ad11 (2, 0, 0)))) (4 : Int32).toNatClampNeg (some (ad12 (2, 0, 0)))) (5 : Int32).toNatClampNeg (some (ad13 (2, 0, 0)))) (6 : Int32).toNatClampNeg (some (ad14 (2, 0, 0)))))))))] : va_W))[qk]? = some (ad15 (2, 0, 0), .inr (2, (List.range 4).map (fun j => am_fv K15 am_M0 (2, 7, 0) j (am_f2 j)))) := by rw [List.getElem?_append_left (List.getElem?_eq_some_iff.mp hqw).1]; exact hqw
  have hpos2 : (am_ws K15 am_M0 ++ ([(h0, .inr (4, [.ref (ad1 (1, 0, 0)), .ref (ad2 (1, 0, 0)), .ref (ad3 (1, 0, 0)), .ref (ad4 (0, 0, 0)), .ref (ad5 (3, 0, 0)), .ref qs, .ref q506, .ref q507, .int 0])), (qs, .inl (am_cA K15 3, 8, .inr (.inr (.inr (.inr (va_up (va_up (va_up (va_up (va_up (va_up (va_up (fun _ => none) (0 : Int32).toNatClampNeg (some (ad8 (2, 0, 0)))) (1 : Int32).toNatClampNeg (some (ad9 (2, 0, 0)))) (2 : Int32).toNatClampNeg (some (ad10 (2, 0, 0)))) (3 : Int32).toNatClampNeg (some (ad11 (2, 0, 0)))) (4 : Int32).toNatClampNeg (some (ad12 (2, 0, 0)))) (5 : Int32).toNatClampNeg (some (ad13 (2, 0, 0)))) (6 : Int32).toNatClampNeg (some (ad14 (2, 0, 0)))))))))] : va_W))[(am_ws K15 am_M0).length + 1]? = some (qs, .inl (am_cA K15 3, 8, .inr (.inr (.inr (.inr (va_up (va_up (va_up (va_up (va_up (va_up (va_up (fun _ => none) (0 : Int32).toNatClampNeg (some (ad8 (2, 0, 0)))) (1 : Int32).toNatClampNeg (some (ad9 (2, 0, 0)))) (2 : Int32).toNatClampNeg (some (ad10 (2, 0, 0)))) (3 : Int32).toNatClampNeg (some (ad11 (2, 0, 0)))) (4 : Int32).toNatClampNeg (some (ad12 (2, 0, 0)))) (5 : Int32).toNatClampNeg (some (ad13 (2, 0, 0)))) (6 : Int32).toNatClampNeg (some (ad14 (2, 0, 0))))))))) := by rw [List.getElem?_append_right (Nat.le_add_right _ _), Nat.add_sub_cancel_left]; rfl
  refine va_astq (D := am_D K15) (cl := vwCl) (tys := am_tys K15) (r := (RX2, TX2, 4)) (A := A) (H0 := s.heap) hx hb hK hP hD hS ((am_ws K15 am_M0).length + 1) 3 qk 2 hpos2 rfl hqw2 rfl (i := 7) (am_inbE (by decide +kernel)) dX4_init_102 (fun H locs hP hD hS => ?_)
  have es : (am_ws K15 am_M0 ++ ([(h0, .inr (4, [.ref (ad1 (1, 0, 0)), .ref (ad2 (1, 0, 0)), .ref (ad3 (1, 0, 0)), .ref (ad4 (0, 0, 0)), .ref (ad5 (3, 0, 0)), .ref qs, .ref q506, .ref q507, .int 0])), (qs, .inl (am_cA K15 3, 8, .inr (.inr (.inr (.inr (va_up (va_up (va_up (va_up (va_up (va_up (va_up (fun _ => none) (0 : Int32).toNatClampNeg (some (ad8 (2, 0, 0)))) (1 : Int32).toNatClampNeg (some (ad9 (2, 0, 0)))) (2 : Int32).toNatClampNeg (some (ad10 (2, 0, 0)))) (3 : Int32).toNatClampNeg (some (ad11 (2, 0, 0)))) (4 : Int32).toNatClampNeg (some (ad12 (2, 0, 0)))) (5 : Int32).toNatClampNeg (some (ad13 (2, 0, 0)))) (6 : Int32).toNatClampNeg (some (ad14 (2, 0, 0)))))))))] : va_W)).set ((am_ws K15 am_M0).length + 1) (qs, .inl (am_cA K15 3, 8, .inr (.inr (.inr (.inr (va_up (va_up (va_up (va_up (va_up (va_up (va_up (va_up (fun _ => none) (0 : Int32).toNatClampNeg (some (ad8 (2, 0, 0)))) (1 : Int32).toNatClampNeg (some (ad9 (2, 0, 0)))) (2 : Int32).toNatClampNeg (some (ad10 (2, 0, 0)))) (3 : Int32).toNatClampNeg (some (ad11 (2, 0, 0)))) (4 : Int32).toNatClampNeg (some (ad12 (2, 0, 0)))) (5 : Int32).toNatClampNeg (some (ad13 (2, 0, 0)))) (6 : Int32).toNatClampNeg (some (ad14 (2, 0, 0)))) (7 : Int32).toNatClampNeg (some (ad15 (2, 0, 0))))))))) = am_ws K15 am_M0 ++ [(h0, .inr (4, [.ref (ad1 (1, 0, 0)), .ref (ad2 (1, 0, 0)), .ref (ad3 (1, 0, 0)), .ref (ad4 (0, 0, 0)), .ref (ad5 (3, 0, 0)), .ref qs, .ref q506, .ref q507, .int 0])), (qs, .inl (am_cA K15 3, 8, .inr (.inr (.inr (.inr (va_up (va_up (va_up (va_up (va_up (va_up (va_up (va_up (fun _ => none) (0 : Int32).toNatClampNeg (some (ad8 (2, 0, 0)))) (1 : Int32).toNatClampNeg (some (ad9 (2, 0, 0)))) (2 : Int32).toNatClampNeg (some (ad10 (2, 0, 0)))) (3 : Int32).toNatClampNeg (some (ad11 (2, 0, 0)))) (4 : Int32).toNatClampNeg (some (ad12 (2, 0, 0)))) (5 : Int32).toNatClampNeg (some (ad13 (2, 0, 0)))) (6 : Int32).toNatClampNeg (some (ad14 (2, 0, 0)))) (7 : Int32).toNatClampNeg (some (ad15 (2, 0, 0)))))))))] := by rw [List.set_append_right _ _ (Nat.le_add_right _ _), Nat.add_sub_cancel_left]; rfl
  rw [es] at hP hD
  refine lv_iinc hx hb dX4_init_103 hl (k := 0) rfl (v := 8) (by decide +kernel) (by decide) rfl (fun ls hl => ?_)
  have hl : lv_has ls 2 [(1, .int 8), (0, .ref h0)] := hl
  refine lv_goto (tgt := 84) hx hb dX4_init_106 rfl ?_
  refine lv_iload_n hx hb dX4_init_84 rfl (lv_at hl 0 rfl) ?_
  refine lv_bipush hx hb dX4_init_85 bp_8 ?_
  refine lv_icmp_ge (tgt := 109) hx hb dX4_init_87 rfl (fun _ => ?_) (fun h => absurd (by decide) h)
  have hf5 : ∀ r ∈ am_dom K15, r ≠ (505, 0, 0) ∧ am_apart r (505, 0, 0) = true := by rw [hdm]; decide +kernel
  have ew5 := am_ws_ext (K := K15) (M := am_M0) (q := qs) hf5
  have hcell : ∀ cA', vp_cell cA' (8, .inr (.inr (.inr (.inr (va_up (va_up (va_up (va_up (va_up (va_up (va_up (va_up (fun _ => none) (0 : Int32).toNatClampNeg (some (ad8 (2, 0, 0)))) (1 : Int32).toNatClampNeg (some (ad9 (2, 0, 0)))) (2 : Int32).toNatClampNeg (some (ad10 (2, 0, 0)))) (3 : Int32).toNatClampNeg (some (ad11 (2, 0, 0)))) (4 : Int32).toNatClampNeg (some (ad12 (2, 0, 0)))) (5 : Int32).toNatClampNeg (some (ad13 (2, 0, 0)))) (6 : Int32).toNatClampNeg (some (ad14 (2, 0, 0)))) (7 : Int32).toNatClampNeg (some (ad15 (2, 0, 0)))))))) = vp_cell cA' (8, .inr (.inr (.inr (.inr (fun j => some (am_ad (am_ext K15 (505, 0, 0) qs) (2, j, 0))))))) := by
    intro cA'
    rw [vp_cell_q, vp_cell_q]
    unfold arrV
    congr 3
    funext j
    have had : am_ad (am_ext K15 (505, 0, 0) qs) = fun r => if r = (505, 0, 0) then qs else am_ad K15 r := rfl
    rcases j with ⟨j, hj⟩
    have h8 : j = 0 ∨ j = 1 ∨ j = 2 ∨ j = 3 ∨ j = 4 ∨ j = 5 ∨ j = 6 ∨ j = 7 := by omega
    rw [had, ea15, ea14, ea13, ea12, ea11, ea10, ea9, ea8, ea7, ea6, ea5, ea4, ea3, ea2, ea1]
    rcases h8 with rfl | rfl | rfl | rfl | rfl | rfl | rfl | rfl <;> rfl
  have hP5 : va_P (am_D K15) vwCl (am_ws (am_ext K15 (505, 0, 0) qs) am_M0 ++ [(h0, .inr (4, [.ref (ad1 (1, 0, 0)), .ref (ad2 (1, 0, 0)), .ref (ad3 (1, 0, 0)), .ref (ad4 (0, 0, 0)), .ref (ad5 (3, 0, 0)), .ref qs, .ref q506, .ref q507, .int 0]))]) H := by
    refine va_P_mem.mpr fun x hx9 => ?_
    have hpm := va_P_mem.mp hP
    rw [ew5] at hx9
    rcases List.mem_append.mp hx9 with h | h
    · rcases List.mem_append.mp h with h | h
      · exact hpm x (List.mem_append_left _ h)
      · rw [List.mem_singleton.mp h, am_e_ref sh_505]
        have h1 : H[qs]? = some (vp_cell _ _) := hpm (qs, .inl (am_cA K15 3, 8, .inr (.inr (.inr (.inr (va_up (va_up (va_up (va_up (va_up (va_up (va_up (va_up (fun _ => none) (0 : Int32).toNatClampNeg (some (ad8 (2, 0, 0)))) (1 : Int32).toNatClampNeg (some (ad9 (2, 0, 0)))) (2 : Int32).toNatClampNeg (some (ad10 (2, 0, 0)))) (3 : Int32).toNatClampNeg (some (ad11 (2, 0, 0)))) (4 : Int32).toNatClampNeg (some (ad12 (2, 0, 0)))) (5 : Int32).toNatClampNeg (some (ad13 (2, 0, 0)))) (6 : Int32).toNatClampNeg (some (ad14 (2, 0, 0)))) (7 : Int32).toNatClampNeg (some (ad15 (2, 0, 0))))))))) (List.mem_append_right _ (List.mem_cons_of_mem _ (List.mem_singleton.mpr rfl)))
        show H[qs]? = some (vp_cell _ _)
        rw [h1, hcell]
        rfl
    · exact hpm x (List.mem_append_right _ (by rw [List.mem_singleton.mp h]; exact List.mem_cons_self))
  have hD5 : va_D A (am_ws (am_ext K15 (505, 0, 0) qs) am_M0 ++ [(h0, .inr (4, [.ref (ad1 (1, 0, 0)), .ref (ad2 (1, 0, 0)), .ref (ad3 (1, 0, 0)), .ref (ad4 (0, 0, 0)), .ref (ad5 (3, 0, 0)), .ref qs, .ref q506, .ref q507, .int 0]))]) := by
    refine va_D_perm hD ?_
    rw [ew5]
    simp only [List.map_append, List.map_cons, List.map_nil]
    exact (List.Perm.append_left _ (List.Perm.swap _ _ _)).trans (by rw [List.append_assoc]; exact List.Perm.refl _)
  have hP : va_P (am_D (am_ext K15 (505, 0, 0) qs)) vwCl _ H := hP5
  have hD := hD5
  generalize hK16 : am_ext K15 (505, 0, 0) qs = K16 at hP hD
  have hdm : am_dom K16 = [(203, 0, 0), (204, 0, 0), (205, 0, 0), (208, 0, 0), (210, 0, 0), (211, 0, 0), (212, 0, 0), (1, 0, 0), (203, 1, 0), (204, 1, 0), (205, 1, 0), (208, 1, 0), (210, 1, 0), (211, 1, 0), (212, 1, 0), (1, 1, 0), (203, 2, 0), (204, 2, 0), (205, 2, 0), (208, 2, 0), (210, 2, 0), (211, 2, 0), (212, 2, 0), (1, 2, 0), (102, 0, 0), (103, 0, 0), (104, 0, 0), (105, 0, 0), (106, 0, 0), (107, 0, 0), (0, 0, 0), (402, 0, 0), (3, 0, 0), (506, 0, 0), (507, 0, 0), (303, 0, 0), (2, 0, 0), (303, 1, 0), (2, 1, 0), (303, 2, 0), (2, 2, 0), (303, 3, 0), (2, 3, 0), (303, 4, 0), (2, 4, 0), (303, 5, 0), (2, 5, 0), (303, 6, 0), (2, 6, 0), (303, 7, 0), (2, 7, 0), (505, 0, 0)] := by rw [← hK16]; show am_dom K15 ++ [(505, 0, 0)] = _; rw [hdm]; rfl
  have ea16 : am_ad K16 = fun r => if r = (505, 0, 0) then qs else am_ad K15 r := by rw [← hK16]; rfl
  have ed : am_D K16 = D := by rw [← hK16]; exact ed
  have ec : am_cA K16 = cA := by rw [← hK16]; exact ec
  have el : am_l K16 = l := by rw [← hK16]; exact el
  have eo : am_opq K16 = fun _ _ => .null := by rw [← hK16]; exact eo
  have hfree : ∀ r ∈ am_dom K16, r ≠ (4, 0, 0) ∧ am_apart r (4, 0, 0) = true := by rw [hdm]; decide +kernel
  have hent : am_e (am_ext K16 (4, 0, 0) h0) am_M0 (4, 0, 0) = .inr (4, [.ref (ad1 (1, 0, 0)), .ref (ad2 (1, 0, 0)), .ref (ad3 (1, 0, 0)), .ref (ad4 (0, 0, 0)), .ref (ad5 (3, 0, 0)), .ref qs, .ref q506, .ref q507, .int 0]) := by
    rw [am_e_obj sh_4]
    have had : am_ad (am_ext K16 (4, 0, 0) h0) = fun r => if r = (4, 0, 0) then h0 else am_ad K16 r := rfl
    simp only [am_fv, had, ea16, ea15, ea14, ea13, ea12, ea11, ea10, ea9, ea8, ea7, ea6, ea5, ea4, ea3, ea2, ea1, am_f4, am_ff]
    rfl
  have ew := am_ws_ext (K := K16) (M := am_M0) (q := h0) hfree
  rw [hent] at ew
  rw [← ew] at hP hD
  have eK : am_ext K16 (4, 0, 0) h0 = am_mk l D cA (am_ad (am_ext K16 (4, 0, 0) h0)) am_dom_X4_init := by
    show (am_l K16, am_D K16, _, am_opq K16, am_cA K16, am_dom K16 ++ [(4, 0, 0)]) = _
    rw [el, ed, eo, ec, hdm]
    rfl
  rw [eK] at hP hD
  rw [ed] at hP
  exact W.vret hx hb hr (fun t ht hW => ⟨⟨am_ad (am_ext K16 (4, 0, 0) h0), rfl, (show (if ((4, 0, 0) : am_L) = (4, 0, 0) then h0 else am_ad K16 (4, 0, 0)) = h0 from if_pos rfl), by rw [ht]; exact hP, hD⟩, hS.F ht⟩) hS.2.2 dX4_init_109
