theorem am_M0z {k o i j : Nat} (h1 : k ≠ 1) (h2 : k ≠ 2) (h5 : k ≠ 5) : am_M0.1 k o i j = 0 := by simp [am_M0, h1, h2, h5]
theorem cn_zi {k n : Nat} (h1 : k ≠ 1) (h2 : k ≠ 2) (h5 : k ≠ 5) (cA : ClassId) : vp_cell cA (n, .inl (fun j => am_M0.1 k 0 0 j)) = arrV cA n (fun _ => .int 0) := by
  rw [vp_cell_i]
  exact congrArg (arrV cA n) (funext fun j => congrArg Value.int (am_M0z h1 h2 h5))
theorem cn_zl {k n : Nat} (cA : ClassId) : vp_cell cA (n, .inr (.inl (fun j => am_M0.2 k 0 0 j))) = arrV cA n (fun _ => .long 0) := rfl
theorem cn_wI : Cond.arrayClass .int ∈ am_T := am_Tt 100 (by decide +kernel) rfl
theorem cn_wJ : Cond.arrayClass .long ∈ am_T := am_Tt 134 (by decide +kernel) rfl
theorem cn_wZ : Cond.arrayClass .boolean ∈ am_T := am_Tt 988 (by decide +kernel) rfl
theorem cn_oI : Cond.instanceMethod objectInit ∈ am_T := am_Tt 20 (by decide +kernel) rfl
theorem cn_oC : Cond.code objectInit ⟨#[0xb1]⟩ 1 none ∈ am_T := am_Tt 21 (by decide +kernel) rfl
def am_dom_X2_init : List am_L := [(303, 0, 0), (2, 0, 0)]
set_option maxHeartbeats 8000000 in
set_option maxRecDepth 100000 in
theorem c_X2_init (l : Launch) (D : va_G) (cA : Nat → ClassId) (h0 sz : Nat) : Met l m_X2_init.2.1 (am_tw m_X2_init) { frames := 1, cells := 1, slots := 40, locals := 60 } (cn_Pc l D cA 2 h0 sz [.int 0, .int 0, .int 0, .null]) (cn_Qc l D cA 2 h0 sz [.int 0, .int 0, .int 0, .null] am_dom_X2_init) 1 40 (va_A [(h0, .inr (2, [.int 0, .int 0, .int 0, .null]))] sz) := by
  refine Met.ofW (cc := cX2_init) (maxL := 1) (ret := none) cb_X2_init.2.2.2.2.1 rfl ?_
  intro p e s m args below meth c s₁ B hml hv
  obtain ⟨rfl, hsz, hP, hK, hD0, hFw⟩ := hv
  unfold cn_Qc
  have hx := B.exec
  have hb := B.bytes
  have hr := B.returns
  have hts0 := atoms_spec (ws := am_tw m_X2_init) B.pre
  have hts : ∀ w ∈ am_T, w.before #[Value.ref h0] s = true := fun w hw => hts0 w (List.mem_cons_of_mem _ hw)
  have hown : s.vm.findClass RX2 = some m.cls := findClass_of_methodNamed B.named
  have hlocks := B.notSynchronized
  have hin : meth.name = "<init>" := (name_of_methodNamed B.named B.method).1
  subst hsz
  have hD := hD0.self (sz := s.heap.size)
  generalize hAe : va_A [(h0, .inr (2, [.int 0, .int 0, .int 0, .null]))] s.heap.size = A at hD ⊢
  have hA : ∀ q : Nat, s.heap.size ≤ q → A q := fun q h => by rw [← hAe]; exact Or.inr h
  have hS : va_S A s.heap s.heap [] := va_S.rf
  obtain ⟨K, hKe⟩ : ∃ K, K = am_mk l D cA (fun _ => 0) [] := ⟨_, rfl⟩
  have hdm : am_dom K = [] := by rw [hKe]; rfl
  have ed : am_D K = D := by rw [hKe]; rfl
  have ec : am_cA K = cA := by rw [hKe]; rfl
  have el : am_l K = l := by rw [hKe]; rfl
  have eo : am_opq K = fun _ _ => .null := by rw [hKe]; rfl
  have hK : va_K (am_D K) vwCl (am_tys K) s := by rw [hKe]; exact hK
  have hw0 : am_ws K am_M0 = [] := by unfold am_ws; rw [hdm]; rfl
  have hP : va_P (am_D K) vwCl (am_ws K am_M0 ++ [(h0, .inr (2, [.int 0, .int 0, .int 0, .null]))]) s.heap := by rw [hw0, ed]; exact hP
  have hD : va_D A (am_ws K am_M0 ++ [(h0, .inr (2, [.int 0, .int 0, .int 0, .null]))]) := by rw [hw0]; exact hD
  have hl := lv_entry ([.ref h0]) (n := 1) (Nat.le_of_ble_eq_true rfl)
  rw [lg_entry_eq]
  generalize (lg_sl ([.ref h0]) ++ List.replicate (1 - (lg_sl ([.ref h0])).length) Slot.unset).toArray = ls at hl ⊢
  have hl : lv_has ls 1 [(0, .ref h0)] := hl
  refine lv_aload_n hx hb dX2_init_0 rfl (lv_at hl 0 rfl) ?_
  refine W.objInit hx hb hown (hts (.methodLink RX2 3 objectInit) (am_Tt 168 (by decide +kernel) rfl)) (hts _ cn_oI) (hts _ cn_oC) rfl (by rw [hml]; exact hl.1) rfl dX2_init_1 (Nat.le_of_ble_eq_true rfl) (Nat.le_of_ble_eq_true rfl) ?_
  refine W.eq (g2 := F0 m 4 ls []) rfl ?_
  refine lv_aload_n hx hb dX2_init_4 rfl (lv_at hl 0 rfl) ?_
  refine lv_iconst hx hb dX2_init_5 ic_m1 ?_
  refine cn_puti (K := K) (M := am_M0) (own := RX2) (h0 := h0) (ex2 := []) (v := .int (-1)) hx hb hts hown hK fi_X2 tyX2 tyX2_ok nmX2 rfl (by decide) (am_Tt 169 (by decide +kernel) rfl) rfl (tyX2_ok 0 (by decide)) rfl rfl (Nat.le_of_ble_eq_true rfl) dX2_init_6 hP hD hS (fun H locs hP hD hS => ?_)
  have hP : va_P (am_D K) vwCl (am_ws K am_M0 ++ [(h0, .inr (2, [.int (-1), .int 0, .int 0, .null]))]) H := hP
  have hD : va_D A (am_ws K am_M0 ++ [(h0, .inr (2, [.int (-1), .int 0, .int 0, .null]))]) := hD
  refine lv_aload_n hx hb dX2_init_9 rfl (lv_at hl 0 rfl) ?_
  refine lv_bipush hx hb dX2_init_10 bp_40 ?_
  refine cn_new1 (K := K) (M := am_M0) (t := 2) (n := 40) (k := 303) hx hb dX2_init_12 (hts _ cn_wJ) hK rfl (fun h => h) (fun q => am_e_long sh_303) (cn_zl) (by rw [hdm]; decide +kernel) (by decide) (by decide +kernel) (by decide +kernel) (Nat.le_of_ble_eq_true rfl) (Nat.le_of_ble_eq_true rfl) hP hD hS hA (fun q1 H hP hD hS => ?_)
  have hP : va_P (am_D (am_ext K (303, 0, 0) q1)) vwCl _ H := hP
  generalize hK1 : am_ext K (303, 0, 0) q1 = K1 at hP hD
  have hdm : am_dom K1 = [(303, 0, 0)] := by rw [← hK1]; show am_dom K ++ [(303, 0, 0)] = _; rw [hdm]; rfl
  have hK : va_K (am_D K1) vwCl (am_tys K1) s := by rw [← hK1]; exact hK
  have ea1 : am_ad K1 = fun r => if r = (303, 0, 0) then q1 else am_ad K r := by rw [← hK1]; rfl
  have ed : am_D K1 = D := by rw [← hK1]; exact ed
  have ec : am_cA K1 = cA := by rw [← hK1]; exact ec
  have el : am_l K1 = l := by rw [← hK1]; exact el
  have eo : am_opq K1 = fun _ _ => .null := by rw [← hK1]; exact eo
  refine cn_put (K := K1) (M := am_M0) (own := RX2) (h0 := h0) (ex2 := []) (v := .ref q1) hx hb hts hown hin hK fi_X2 tyX2 tyX2_ok nmX2 rfl (by decide) (am_Tt 175 (by decide +kernel) rfl) rfl rfl (tyX2_ok 3 (by decide)) rfl rfl (Nat.le_of_ble_eq_true rfl) dX2_init_14 hP hD hS (fun H locs hP hD hS => ?_)
  have hP : va_P (am_D K1) vwCl (am_ws K1 am_M0 ++ [(h0, .inr (2, [.int (-1), .int 0, .int 0, .ref q1]))]) H := hP
  have hD : va_D A (am_ws K1 am_M0 ++ [(h0, .inr (2, [.int (-1), .int 0, .int 0, .ref q1]))]) := hD
  have hfree : ∀ r ∈ am_dom K1, r ≠ (2, 0, 0) ∧ am_apart r (2, 0, 0) = true := by rw [hdm]; decide +kernel
  have hent : am_e (am_ext K1 (2, 0, 0) h0) am_M0 (2, 0, 0) = .inr (2, [.int (-1), .int 0, .int 0, .ref q1]) := by
    rw [am_e_obj sh_2]
    have had : am_ad (am_ext K1 (2, 0, 0) h0) = fun r => if r = (2, 0, 0) then h0 else am_ad K1 r := rfl
    have hoq : am_opq (am_ext K1 (2, 0, 0) h0) = fun _ _ => .null := eo
    simp only [am_fv, had, hoq, ea1, am_f2, am_ff]
    rfl
  have ew := am_ws_ext (K := K1) (M := am_M0) (q := h0) hfree
  rw [hent] at ew
  rw [← ew] at hP hD
  have eK : am_ext K1 (2, 0, 0) h0 = am_mk l D cA (am_ad (am_ext K1 (2, 0, 0) h0)) am_dom_X2_init := by
    show (am_l K1, am_D K1, _, am_opq K1, am_cA K1, am_dom K1 ++ [(2, 0, 0)]) = _
    rw [el, ed, eo, ec, hdm]
    rfl
  rw [eK] at hP hD
  rw [ed] at hP
  exact W.vret hx hb hr (fun t ht hW => ⟨⟨am_ad (am_ext K1 (2, 0, 0) h0), rfl, (show (if ((2, 0, 0) : am_L) = (2, 0, 0) then h0 else am_ad K1 (2, 0, 0)) = h0 from if_pos rfl), by rw [ht]; exact hP, hD⟩, hS.F ht⟩) hS.2.2 dX2_init_17
def am_dom_X1_init : List am_L := [(203, 0, 0), (204, 0, 0), (205, 0, 0), (208, 0, 0), (210, 0, 0), (211, 0, 0), (212, 0, 0), (1, 0, 0)]
set_option maxHeartbeats 8000000 in
set_option maxRecDepth 100000 in
theorem c_X1_init (l : Launch) (D : va_G) (cA : Nat → ClassId) (h0 sz : Nat) : Met l m_X1_init.2.1 (am_tw m_X1_init) { frames := 1, cells := 7, slots := 48, locals := 60 } (cn_Pc l D cA 1 h0 sz [.int 0, .int 0, .int 0, .null, .null, .null, .int 0, .int 0, .null, .int 0, .null, .null, .null, .int 0]) (cn_Qc l D cA 1 h0 sz [.int 0, .int 0, .int 0, .null, .null, .null, .int 0, .int 0, .null, .int 0, .null, .null, .null, .int 0] am_dom_X1_init) 7 48 (va_A [(h0, .inr (1, [.int 0, .int 0, .int 0, .null, .null, .null, .int 0, .int 0, .null, .int 0, .null, .null, .null, .int 0]))] sz) := by
  refine Met.ofW (cc := cX1_init) (maxL := 1) (ret := none) cb_X1_init.2.2.2.2.1 rfl ?_
  intro p e s m args below meth c s₁ B hml hv
  obtain ⟨rfl, hsz, hP, hK, hD0, hFw⟩ := hv
  unfold cn_Qc
  have hx := B.exec
  have hb := B.bytes
  have hr := B.returns
  have hts0 := atoms_spec (ws := am_tw m_X1_init) B.pre
  have hts : ∀ w ∈ am_T, w.before #[Value.ref h0] s = true := fun w hw => hts0 w (List.mem_cons_of_mem _ hw)
  have hown : s.vm.findClass RX1 = some m.cls := findClass_of_methodNamed B.named
  have hlocks := B.notSynchronized
  have hin : meth.name = "<init>" := (name_of_methodNamed B.named B.method).1
  subst hsz
  have hD := hD0.self (sz := s.heap.size)
  generalize hAe : va_A [(h0, .inr (1, [.int 0, .int 0, .int 0, .null, .null, .null, .int 0, .int 0, .null, .int 0, .null, .null, .null, .int 0]))] s.heap.size = A at hD ⊢
  have hA : ∀ q : Nat, s.heap.size ≤ q → A q := fun q h => by rw [← hAe]; exact Or.inr h
  have hS : va_S A s.heap s.heap [] := va_S.rf
  obtain ⟨K, hKe⟩ : ∃ K, K = am_mk l D cA (fun _ => 0) [] := ⟨_, rfl⟩
  have hdm : am_dom K = [] := by rw [hKe]; rfl
  have ed : am_D K = D := by rw [hKe]; rfl
  have ec : am_cA K = cA := by rw [hKe]; rfl
  have el : am_l K = l := by rw [hKe]; rfl
  have eo : am_opq K = fun _ _ => .null := by rw [hKe]; rfl
  have hK : va_K (am_D K) vwCl (am_tys K) s := by rw [hKe]; exact hK
  have hw0 : am_ws K am_M0 = [] := by unfold am_ws; rw [hdm]; rfl
  have hP : va_P (am_D K) vwCl (am_ws K am_M0 ++ [(h0, .inr (1, [.int 0, .int 0, .int 0, .null, .null, .null, .int 0, .int 0, .null, .int 0, .null, .null, .null, .int 0]))]) s.heap := by rw [hw0, ed]; exact hP
  have hD : va_D A (am_ws K am_M0 ++ [(h0, .inr (1, [.int 0, .int 0, .int 0, .null, .null, .null, .int 0, .int 0, .null, .int 0, .null, .null, .null, .int 0]))]) := by rw [hw0]; exact hD
  have hl := lv_entry ([.ref h0]) (n := 1) (Nat.le_of_ble_eq_true rfl)
  rw [lg_entry_eq]
  generalize (lg_sl ([.ref h0]) ++ List.replicate (1 - (lg_sl ([.ref h0])).length) Slot.unset).toArray = ls at hl ⊢
  have hl : lv_has ls 1 [(0, .ref h0)] := hl
  refine lv_aload_n hx hb dX1_init_0 rfl (lv_at hl 0 rfl) ?_
  refine W.objInit hx hb hown (hts (.methodLink RX1 3 objectInit) (am_Tt 27 (by decide +kernel) rfl)) (hts _ cn_oI) (hts _ cn_oC) rfl (by rw [hml]; exact hl.1) rfl dX1_init_1 (Nat.le_of_ble_eq_true rfl) (Nat.le_of_ble_eq_true rfl) ?_
  refine W.eq (g2 := F0 m 4 ls []) rfl ?_
  refine lv_aload_n hx hb dX1_init_4 rfl (lv_at hl 0 rfl) ?_
  refine lv_iconst hx hb dX1_init_5 ic_4 ?_
  refine cn_new1 (K := K) (M := am_M0) (t := 0) (n := 4) (k := 203) hx hb dX1_init_6 (hts _ cn_wI) hK rfl (fun h => h) (fun q => am_e_int sh_203) (cn_zi (by decide) (by decide) (by decide)) (by rw [hdm]; decide +kernel) (by decide) (by decide +kernel) (by decide +kernel) (Nat.le_of_ble_eq_true rfl) (Nat.le_of_ble_eq_true rfl) hP hD hS hA (fun q1 H hP hD hS => ?_)
  have hP : va_P (am_D (am_ext K (203, 0, 0) q1)) vwCl _ H := hP
  generalize hK1 : am_ext K (203, 0, 0) q1 = K1 at hP hD
  have hdm : am_dom K1 = [(203, 0, 0)] := by rw [← hK1]; show am_dom K ++ [(203, 0, 0)] = _; rw [hdm]; rfl
  have hK : va_K (am_D K1) vwCl (am_tys K1) s := by rw [← hK1]; exact hK
  have ea1 : am_ad K1 = fun r => if r = (203, 0, 0) then q1 else am_ad K r := by rw [← hK1]; rfl
  have ed : am_D K1 = D := by rw [← hK1]; exact ed
  have ec : am_cA K1 = cA := by rw [← hK1]; exact ec
  have el : am_l K1 = l := by rw [← hK1]; exact el
  have eo : am_opq K1 = fun _ _ => .null := by rw [← hK1]; exact eo
  refine cn_put (K := K1) (M := am_M0) (own := RX1) (h0 := h0) (ex2 := []) (v := .ref q1) hx hb hts hown hin hK fi_X1 tyX1 tyX1_ok nmX1 rfl (by decide) (am_Tt 38 (by decide +kernel) rfl) rfl rfl (tyX1_ok 3 (by decide)) rfl rfl (Nat.le_of_ble_eq_true rfl) dX1_init_8 hP hD hS (fun H locs hP hD hS => ?_)
  have hP : va_P (am_D K1) vwCl (am_ws K1 am_M0 ++ [(h0, .inr (1, [.int 0, .int 0, .int 0, .ref q1, .null, .null, .int 0, .int 0, .null, .int 0, .null, .null, .null, .int 0]))]) H := hP
  have hD : va_D A (am_ws K1 am_M0 ++ [(h0, .inr (1, [.int 0, .int 0, .int 0, .ref q1, .null, .null, .int 0, .int 0, .null, .int 0, .null, .null, .null, .int 0]))]) := hD
  refine lv_aload_n hx hb dX1_init_11 rfl (lv_at hl 0 rfl) ?_
  refine lv_iconst hx hb dX1_init_12 ic_4 ?_
  refine cn_new1 (K := K1) (M := am_M0) (t := 0) (n := 4) (k := 204) hx hb dX1_init_13 (hts _ cn_wI) hK rfl (fun h => h) (fun q => am_e_int sh_204) (cn_zi (by decide) (by decide) (by decide)) (by rw [hdm]; decide +kernel) (by decide) (by decide +kernel) (by decide +kernel) (Nat.le_of_ble_eq_true rfl) (Nat.le_of_ble_eq_true rfl) hP hD hS hA (fun q2 H hP hD hS => ?_)
  have hP : va_P (am_D (am_ext K1 (204, 0, 0) q2)) vwCl _ H := hP
  generalize hK2 : am_ext K1 (204, 0, 0) q2 = K2 at hP hD
  have hdm : am_dom K2 = [(203, 0, 0), (204, 0, 0)] := by rw [← hK2]; show am_dom K1 ++ [(204, 0, 0)] = _; rw [hdm]; rfl
  have hK : va_K (am_D K2) vwCl (am_tys K2) s := by rw [← hK2]; exact hK
  have ea2 : am_ad K2 = fun r => if r = (204, 0, 0) then q2 else am_ad K1 r := by rw [← hK2]; rfl
  have ed : am_D K2 = D := by rw [← hK2]; exact ed
  have ec : am_cA K2 = cA := by rw [← hK2]; exact ec
  have el : am_l K2 = l := by rw [← hK2]; exact el
  have eo : am_opq K2 = fun _ _ => .null := by rw [← hK2]; exact eo
  refine cn_put (K := K2) (M := am_M0) (own := RX1) (h0 := h0) (ex2 := []) (v := .ref q2) hx hb hts hown hin hK fi_X1 tyX1 tyX1_ok nmX1 rfl (by decide) (am_Tt 41 (by decide +kernel) rfl) rfl rfl (tyX1_ok 4 (by decide)) rfl rfl (Nat.le_of_ble_eq_true rfl) dX1_init_15 hP hD hS (fun H locs hP hD hS => ?_)
  have hP : va_P (am_D K2) vwCl (am_ws K2 am_M0 ++ [(h0, .inr (1, [.int 0, .int 0, .int 0, .ref q1, .ref q2, .null, .int 0, .int 0, .null, .int 0, .null, .null, .null, .int 0]))]) H := hP
  have hD : va_D A (am_ws K2 am_M0 ++ [(h0, .inr (1, [.int 0, .int 0, .int 0, .ref q1, .ref q2, .null, .int 0, .int 0, .null, .int 0, .null, .null, .null, .int 0]))]) := hD
  refine lv_aload_n hx hb dX1_init_18 rfl (lv_at hl 0 rfl) ?_
  refine lv_iconst hx hb dX1_init_19 ic_4 ?_
  refine cn_new1 (K := K2) (M := am_M0) (t := 0) (n := 4) (k := 205) hx hb dX1_init_20 (hts _ cn_wI) hK rfl (fun h => h) (fun q => am_e_int sh_205) (cn_zi (by decide) (by decide) (by decide)) (by rw [hdm]; decide +kernel) (by decide) (by decide +kernel) (by decide +kernel) (Nat.le_of_ble_eq_true rfl) (Nat.le_of_ble_eq_true rfl) hP hD hS hA (fun q3 H hP hD hS => ?_)
  have hP : va_P (am_D (am_ext K2 (205, 0, 0) q3)) vwCl _ H := hP
  generalize hK3 : am_ext K2 (205, 0, 0) q3 = K3 at hP hD
  have hdm : am_dom K3 = [(203, 0, 0), (204, 0, 0), (205, 0, 0)] := by rw [← hK3]; show am_dom K2 ++ [(205, 0, 0)] = _; rw [hdm]; rfl
  have hK : va_K (am_D K3) vwCl (am_tys K3) s := by rw [← hK3]; exact hK
  have ea3 : am_ad K3 = fun r => if r = (205, 0, 0) then q3 else am_ad K2 r := by rw [← hK3]; rfl
  have ed : am_D K3 = D := by rw [← hK3]; exact ed
  have ec : am_cA K3 = cA := by rw [← hK3]; exact ec
  have el : am_l K3 = l := by rw [← hK3]; exact el
  have eo : am_opq K3 = fun _ _ => .null := by rw [← hK3]; exact eo
  refine cn_put (K := K3) (M := am_M0) (own := RX1) (h0 := h0) (ex2 := []) (v := .ref q3) hx hb hts hown hin hK fi_X1 tyX1 tyX1_ok nmX1 rfl (by decide) (am_Tt 44 (by decide +kernel) rfl) rfl rfl (tyX1_ok 5 (by decide)) rfl rfl (Nat.le_of_ble_eq_true rfl) dX1_init_22 hP hD hS (fun H locs hP hD hS => ?_)
  have hP : va_P (am_D K3) vwCl (am_ws K3 am_M0 ++ [(h0, .inr (1, [.int 0, .int 0, .int 0, .ref q1, .ref q2, .ref q3, .int 0, .int 0, .null, .int 0, .null, .null, .null, .int 0]))]) H := hP
  have hD : va_D A (am_ws K3 am_M0 ++ [(h0, .inr (1, [.int 0, .int 0, .int 0, .ref q1, .ref q2, .ref q3, .int 0, .int 0, .null, .int 0, .null, .null, .null, .int 0]))]) := hD
  refine lv_aload_n hx hb dX1_init_25 rfl (lv_at hl 0 rfl) ?_
  refine lv_bipush hx hb dX1_init_26 bp_24 ?_
  refine cn_new1 (K := K3) (M := am_M0) (t := 0) (n := 24) (k := 208) hx hb dX1_init_28 (hts _ cn_wI) hK rfl (fun h => h) (fun q => am_e_int sh_208) (cn_zi (by decide) (by decide) (by decide)) (by rw [hdm]; decide +kernel) (by decide) (by decide +kernel) (by decide +kernel) (Nat.le_of_ble_eq_true rfl) (Nat.le_of_ble_eq_true rfl) hP hD hS hA (fun q4 H hP hD hS => ?_)
  have hP : va_P (am_D (am_ext K3 (208, 0, 0) q4)) vwCl _ H := hP
  generalize hK4 : am_ext K3 (208, 0, 0) q4 = K4 at hP hD
  have hdm : am_dom K4 = [(203, 0, 0), (204, 0, 0), (205, 0, 0), (208, 0, 0)] := by rw [← hK4]; show am_dom K3 ++ [(208, 0, 0)] = _; rw [hdm]; rfl
  have hK : va_K (am_D K4) vwCl (am_tys K4) s := by rw [← hK4]; exact hK
  have ea4 : am_ad K4 = fun r => if r = (208, 0, 0) then q4 else am_ad K3 r := by rw [← hK4]; rfl
  have ed : am_D K4 = D := by rw [← hK4]; exact ed
  have ec : am_cA K4 = cA := by rw [← hK4]; exact ec
  have el : am_l K4 = l := by rw [← hK4]; exact el
  have eo : am_opq K4 = fun _ _ => .null := by rw [← hK4]; exact eo
  refine cn_put (K := K4) (M := am_M0) (own := RX1) (h0 := h0) (ex2 := []) (v := .ref q4) hx hb hts hown hin hK fi_X1 tyX1 tyX1_ok nmX1 rfl (by decide) (am_Tt 53 (by decide +kernel) rfl) rfl rfl (tyX1_ok 8 (by decide)) rfl rfl (Nat.le_of_ble_eq_true rfl) dX1_init_30 hP hD hS (fun H locs hP hD hS => ?_)
  have hP : va_P (am_D K4) vwCl (am_ws K4 am_M0 ++ [(h0, .inr (1, [.int 0, .int 0, .int 0, .ref q1, .ref q2, .ref q3, .int 0, .int 0, .ref q4, .int 0, .null, .null, .null, .int 0]))]) H := hP
  have hD : va_D A (am_ws K4 am_M0 ++ [(h0, .inr (1, [.int 0, .int 0, .int 0, .ref q1, .ref q2, .ref q3, .int 0, .int 0, .ref q4, .int 0, .null, .null, .null, .int 0]))]) := hD
  refine lv_aload_n hx hb dX1_init_33 rfl (lv_at hl 0 rfl) ?_
  refine lv_iconst hx hb dX1_init_34 ic_4 ?_
  refine cn_new1 (K := K4) (M := am_M0) (t := 0) (n := 4) (k := 210) hx hb dX1_init_35 (hts _ cn_wI) hK rfl (fun h => h) (fun q => am_e_int sh_210) (cn_zi (by decide) (by decide) (by decide)) (by rw [hdm]; decide +kernel) (by decide) (by decide +kernel) (by decide +kernel) (Nat.le_of_ble_eq_true rfl) (Nat.le_of_ble_eq_true rfl) hP hD hS hA (fun q5 H hP hD hS => ?_)
  have hP : va_P (am_D (am_ext K4 (210, 0, 0) q5)) vwCl _ H := hP
  generalize hK5 : am_ext K4 (210, 0, 0) q5 = K5 at hP hD
  have hdm : am_dom K5 = [(203, 0, 0), (204, 0, 0), (205, 0, 0), (208, 0, 0), (210, 0, 0)] := by rw [← hK5]; show am_dom K4 ++ [(210, 0, 0)] = _; rw [hdm]; rfl
  have hK : va_K (am_D K5) vwCl (am_tys K5) s := by rw [← hK5]; exact hK
  have ea5 : am_ad K5 = fun r => if r = (210, 0, 0) then q5 else am_ad K4 r := by rw [← hK5]; rfl
  have ed : am_D K5 = D := by rw [← hK5]; exact ed
  have ec : am_cA K5 = cA := by rw [← hK5]; exact ec
  have el : am_l K5 = l := by rw [← hK5]; exact el
  have eo : am_opq K5 = fun _ _ => .null := by rw [← hK5]; exact eo
  refine cn_put (K := K5) (M := am_M0) (own := RX1) (h0 := h0) (ex2 := []) (v := .ref q5) hx hb hts hown hin hK fi_X1 tyX1 tyX1_ok nmX1 rfl (by decide) (am_Tt 60 (by decide +kernel) rfl) rfl rfl (tyX1_ok 10 (by decide)) rfl rfl (Nat.le_of_ble_eq_true rfl) dX1_init_37 hP hD hS (fun H locs hP hD hS => ?_)
  have hP : va_P (am_D K5) vwCl (am_ws K5 am_M0 ++ [(h0, .inr (1, [.int 0, .int 0, .int 0, .ref q1, .ref q2, .ref q3, .int 0, .int 0, .ref q4, .int 0, .ref q5, .null, .null, .int 0]))]) H := hP
  have hD : va_D A (am_ws K5 am_M0 ++ [(h0, .inr (1, [.int 0, .int 0, .int 0, .ref q1, .ref q2, .ref q3, .int 0, .int 0, .ref q4, .int 0, .ref q5, .null, .null, .int 0]))]) := hD
  refine lv_aload_n hx hb dX1_init_40 rfl (lv_at hl 0 rfl) ?_
  refine lv_iconst hx hb dX1_init_41 ic_4 ?_
  refine cn_new1 (K := K5) (M := am_M0) (t := 0) (n := 4) (k := 211) hx hb dX1_init_42 (hts _ cn_wI) hK rfl (fun h => h) (fun q => am_e_int sh_211) (cn_zi (by decide) (by decide) (by decide)) (by rw [hdm]; decide +kernel) (by decide) (by decide +kernel) (by decide +kernel) (Nat.le_of_ble_eq_true rfl) (Nat.le_of_ble_eq_true rfl) hP hD hS hA (fun q6 H hP hD hS => ?_)
  have hP : va_P (am_D (am_ext K5 (211, 0, 0) q6)) vwCl _ H := hP
  generalize hK6 : am_ext K5 (211, 0, 0) q6 = K6 at hP hD
  have hdm : am_dom K6 = [(203, 0, 0), (204, 0, 0), (205, 0, 0), (208, 0, 0), (210, 0, 0), (211, 0, 0)] := by rw [← hK6]; show am_dom K5 ++ [(211, 0, 0)] = _; rw [hdm]; rfl
  have hK : va_K (am_D K6) vwCl (am_tys K6) s := by rw [← hK6]; exact hK
  have ea6 : am_ad K6 = fun r => if r = (211, 0, 0) then q6 else am_ad K5 r := by rw [← hK6]; rfl
  have ed : am_D K6 = D := by rw [← hK6]; exact ed
  have ec : am_cA K6 = cA := by rw [← hK6]; exact ec
  have el : am_l K6 = l := by rw [← hK6]; exact el
  have eo : am_opq K6 = fun _ _ => .null := by rw [← hK6]; exact eo
  refine cn_put (K := K6) (M := am_M0) (own := RX1) (h0 := h0) (ex2 := []) (v := .ref q6) hx hb hts hown hin hK fi_X1 tyX1 tyX1_ok nmX1 rfl (by decide) (am_Tt 63 (by decide +kernel) rfl) rfl rfl (tyX1_ok 11 (by decide)) rfl rfl (Nat.le_of_ble_eq_true rfl) dX1_init_44 hP hD hS (fun H locs hP hD hS => ?_)
  have hP : va_P (am_D K6) vwCl (am_ws K6 am_M0 ++ [(h0, .inr (1, [.int 0, .int 0, .int 0, .ref q1, .ref q2, .ref q3, .int 0, .int 0, .ref q4, .int 0, .ref q5, .ref q6, .null, .int 0]))]) H := hP
  have hD : va_D A (am_ws K6 am_M0 ++ [(h0, .inr (1, [.int 0, .int 0, .int 0, .ref q1, .ref q2, .ref q3, .int 0, .int 0, .ref q4, .int 0, .ref q5, .ref q6, .null, .int 0]))]) := hD
  refine lv_aload_n hx hb dX1_init_47 rfl (lv_at hl 0 rfl) ?_
  refine lv_iconst hx hb dX1_init_48 ic_4 ?_
  refine cn_new1 (K := K6) (M := am_M0) (t := 0) (n := 4) (k := 212) hx hb dX1_init_49 (hts _ cn_wI) hK rfl (fun h => h) (fun q => am_e_int sh_212) (cn_zi (by decide) (by decide) (by decide)) (by rw [hdm]; decide +kernel) (by decide) (by decide +kernel) (by decide +kernel) (Nat.le_of_ble_eq_true rfl) (Nat.le_of_ble_eq_true rfl) hP hD hS hA (fun q7 H hP hD hS => ?_)
  have hP : va_P (am_D (am_ext K6 (212, 0, 0) q7)) vwCl _ H := hP
  generalize hK7 : am_ext K6 (212, 0, 0) q7 = K7 at hP hD
  have hdm : am_dom K7 = [(203, 0, 0), (204, 0, 0), (205, 0, 0), (208, 0, 0), (210, 0, 0), (211, 0, 0), (212, 0, 0)] := by rw [← hK7]; show am_dom K6 ++ [(212, 0, 0)] = _; rw [hdm]; rfl
  have hK : va_K (am_D K7) vwCl (am_tys K7) s := by rw [← hK7]; exact hK
  have ea7 : am_ad K7 = fun r => if r = (212, 0, 0) then q7 else am_ad K6 r := by rw [← hK7]; rfl
  have ed : am_D K7 = D := by rw [← hK7]; exact ed
  have ec : am_cA K7 = cA := by rw [← hK7]; exact ec
  have el : am_l K7 = l := by rw [← hK7]; exact el
  have eo : am_opq K7 = fun _ _ => .null := by rw [← hK7]; exact eo
  refine cn_put (K := K7) (M := am_M0) (own := RX1) (h0 := h0) (ex2 := []) (v := .ref q7) hx hb hts hown hin hK fi_X1 tyX1 tyX1_ok nmX1 rfl (by decide) (am_Tt 66 (by decide +kernel) rfl) rfl rfl (tyX1_ok 12 (by decide)) rfl rfl (Nat.le_of_ble_eq_true rfl) dX1_init_51 hP hD hS (fun H locs hP hD hS => ?_)
  have hP : va_P (am_D K7) vwCl (am_ws K7 am_M0 ++ [(h0, .inr (1, [.int 0, .int 0, .int 0, .ref q1, .ref q2, .ref q3, .int 0, .int 0, .ref q4, .int 0, .ref q5, .ref q6, .ref q7, .int 0]))]) H := hP
  have hD : va_D A (am_ws K7 am_M0 ++ [(h0, .inr (1, [.int 0, .int 0, .int 0, .ref q1, .ref q2, .ref q3, .int 0, .int 0, .ref q4, .int 0, .ref q5, .ref q6, .ref q7, .int 0]))]) := hD
  refine lv_aload_n hx hb dX1_init_54 rfl (lv_at hl 0 rfl) ?_
  refine lv_iconst hx hb dX1_init_55 ic_1 ?_
  refine cn_puti (K := K7) (M := am_M0) (own := RX1) (h0 := h0) (ex2 := []) (v := .int 1) hx hb hts hown hK fi_X1 tyX1 tyX1_ok nmX1 rfl (by decide) (am_Tt 69 (by decide +kernel) rfl) rfl (tyX1_ok 13 (by decide)) rfl rfl (Nat.le_of_ble_eq_true rfl) dX1_init_56 hP hD hS (fun H locs hP hD hS => ?_)
  have hP : va_P (am_D K7) vwCl (am_ws K7 am_M0 ++ [(h0, .inr (1, [.int 0, .int 0, .int 0, .ref q1, .ref q2, .ref q3, .int 0, .int 0, .ref q4, .int 0, .ref q5, .ref q6, .ref q7, .int 1]))]) H := hP
  have hD : va_D A (am_ws K7 am_M0 ++ [(h0, .inr (1, [.int 0, .int 0, .int 0, .ref q1, .ref q2, .ref q3, .int 0, .int 0, .ref q4, .int 0, .ref q5, .ref q6, .ref q7, .int 1]))]) := hD
  have hfree : ∀ r ∈ am_dom K7, r ≠ (1, 0, 0) ∧ am_apart r (1, 0, 0) = true := by rw [hdm]; decide +kernel
  have hent : am_e (am_ext K7 (1, 0, 0) h0) am_M0 (1, 0, 0) = .inr (1, [.int 0, .int 0, .int 0, .ref q1, .ref q2, .ref q3, .int 0, .int 0, .ref q4, .int 0, .ref q5, .ref q6, .ref q7, .int 1]) := by
    rw [am_e_obj sh_1]
    have had : am_ad (am_ext K7 (1, 0, 0) h0) = fun r => if r = (1, 0, 0) then h0 else am_ad K7 r := rfl
    have hoq : am_opq (am_ext K7 (1, 0, 0) h0) = fun _ _ => .null := eo
    simp only [am_fv, had, hoq, ea7, ea6, ea5, ea4, ea3, ea2, ea1, am_f1, am_ff]
    rfl
  have ew := am_ws_ext (K := K7) (M := am_M0) (q := h0) hfree
  rw [hent] at ew
  rw [← ew] at hP hD
  have eK : am_ext K7 (1, 0, 0) h0 = am_mk l D cA (am_ad (am_ext K7 (1, 0, 0) h0)) am_dom_X1_init := by
    show (am_l K7, am_D K7, _, am_opq K7, am_cA K7, am_dom K7 ++ [(1, 0, 0)]) = _
    rw [el, ed, eo, ec, hdm]
    rfl
  rw [eK] at hP hD
  rw [ed] at hP
  exact W.vret hx hb hr (fun t ht hW => ⟨⟨am_ad (am_ext K7 (1, 0, 0) h0), rfl, (show (if ((1, 0, 0) : am_L) = (1, 0, 0) then h0 else am_ad K7 (1, 0, 0)) = h0 from if_pos rfl), by rw [ht]; exact hP, hD⟩, hS.F ht⟩) hS.2.2 dX1_init_59
def am_dom_X3_init : List am_L := [(402, 0, 0), (3, 0, 0)]
set_option maxHeartbeats 8000000 in
set_option maxRecDepth 100000 in
theorem c_X3_init (l : Launch) (D : va_G) (cA : Nat → ClassId) (h0 sz : Nat) : Met l m_X3_init.2.1 (am_tw m_X3_init) { frames := 1, cells := 1, slots := 250, locals := 60 } (cn_Pc l D cA 3 h0 sz [.int 0, .int 0, .null, .int 0, .int 0, .int 0]) (cn_Qc l D cA 3 h0 sz [.int 0, .int 0, .null, .int 0, .int 0, .int 0] am_dom_X3_init) 1 250 (va_A [(h0, .inr (3, [.int 0, .int 0, .null, .int 0, .int 0, .int 0]))] sz) := by
  refine Met.ofW (cc := cX3_init) (maxL := 1) (ret := none) cb_X3_init.2.2.2.2.1 rfl ?_
  intro p e s m args below meth c s₁ B hml hv
  obtain ⟨rfl, hsz, hP, hK, hD0, hFw⟩ := hv
  unfold cn_Qc
  have hx := B.exec
  have hb := B.bytes
  have hr := B.returns
  have hts0 := atoms_spec (ws := am_tw m_X3_init) B.pre
  have hts : ∀ w ∈ am_T, w.before #[Value.ref h0] s = true := fun w hw => hts0 w (List.mem_cons_of_mem _ hw)
  have hown : s.vm.findClass RX3 = some m.cls := findClass_of_methodNamed B.named
  have hlocks := B.notSynchronized
  have hin : meth.name = "<init>" := (name_of_methodNamed B.named B.method).1
  subst hsz
  have hD := hD0.self (sz := s.heap.size)
  generalize hAe : va_A [(h0, .inr (3, [.int 0, .int 0, .null, .int 0, .int 0, .int 0]))] s.heap.size = A at hD ⊢
  have hA : ∀ q : Nat, s.heap.size ≤ q → A q := fun q h => by rw [← hAe]; exact Or.inr h
  have hS : va_S A s.heap s.heap [] := va_S.rf
  obtain ⟨K, hKe⟩ : ∃ K, K = am_mk l D cA (fun _ => 0) [] := ⟨_, rfl⟩
  have hdm : am_dom K = [] := by rw [hKe]; rfl
  have ed : am_D K = D := by rw [hKe]; rfl
  have ec : am_cA K = cA := by rw [hKe]; rfl
  have el : am_l K = l := by rw [hKe]; rfl
  have eo : am_opq K = fun _ _ => .null := by rw [hKe]; rfl
  have hK : va_K (am_D K) vwCl (am_tys K) s := by rw [hKe]; exact hK
  have hw0 : am_ws K am_M0 = [] := by unfold am_ws; rw [hdm]; rfl
  have hP : va_P (am_D K) vwCl (am_ws K am_M0 ++ [(h0, .inr (3, [.int 0, .int 0, .null, .int 0, .int 0, .int 0]))]) s.heap := by rw [hw0, ed]; exact hP
  have hD : va_D A (am_ws K am_M0 ++ [(h0, .inr (3, [.int 0, .int 0, .null, .int 0, .int 0, .int 0]))]) := by rw [hw0]; exact hD
  have hl := lv_entry ([.ref h0]) (n := 1) (Nat.le_of_ble_eq_true rfl)
  rw [lg_entry_eq]
  generalize (lg_sl ([.ref h0]) ++ List.replicate (1 - (lg_sl ([.ref h0])).length) Slot.unset).toArray = ls at hl ⊢
  have hl : lv_has ls 1 [(0, .ref h0)] := hl
  refine lv_aload_n hx hb dX3_init_0 rfl (lv_at hl 0 rfl) ?_
  refine W.objInit hx hb hown (hts (.methodLink RX3 3 objectInit) (am_Tt 140 (by decide +kernel) rfl)) (hts _ cn_oI) (hts _ cn_oC) rfl (by rw [hml]; exact hl.1) rfl dX3_init_1 (Nat.le_of_ble_eq_true rfl) (Nat.le_of_ble_eq_true rfl) ?_
  refine W.eq (g2 := F0 m 4 ls []) rfl ?_
  refine lv_aload_n hx hb dX3_init_4 rfl (lv_at hl 0 rfl) ?_
  refine lv_sipush hx hb dX3_init_5 sp_250 ?_
  refine cn_new1 (K := K) (M := am_M0) (t := 0) (n := 250) (k := 402) hx hb dX3_init_8 (hts _ cn_wI) hK rfl (fun h => h) (fun q => am_e_int sh_402) (cn_zi (by decide) (by decide) (by decide)) (by rw [hdm]; decide +kernel) (by decide) (by decide +kernel) (by decide +kernel) (Nat.le_of_ble_eq_true rfl) (Nat.le_of_ble_eq_true rfl) hP hD hS hA (fun q1 H hP hD hS => ?_)
  have hP : va_P (am_D (am_ext K (402, 0, 0) q1)) vwCl _ H := hP
  generalize hK1 : am_ext K (402, 0, 0) q1 = K1 at hP hD
  have hdm : am_dom K1 = [(402, 0, 0)] := by rw [← hK1]; show am_dom K ++ [(402, 0, 0)] = _; rw [hdm]; rfl
  have hK : va_K (am_D K1) vwCl (am_tys K1) s := by rw [← hK1]; exact hK
  have ea1 : am_ad K1 = fun r => if r = (402, 0, 0) then q1 else am_ad K r := by rw [← hK1]; rfl
  have ed : am_D K1 = D := by rw [← hK1]; exact ed
  have ec : am_cA K1 = cA := by rw [← hK1]; exact ec
  have el : am_l K1 = l := by rw [← hK1]; exact el
  have eo : am_opq K1 = fun _ _ => .null := by rw [← hK1]; exact eo
  refine cn_put (K := K1) (M := am_M0) (own := RX3) (h0 := h0) (ex2 := []) (v := .ref q1) hx hb hts hown hin hK fi_X3 tyX3 tyX3_ok nmX3 rfl (by decide) (am_Tt 145 (by decide +kernel) rfl) rfl rfl (tyX3_ok 2 (by decide)) rfl rfl (Nat.le_of_ble_eq_true rfl) dX3_init_10 hP hD hS (fun H locs hP hD hS => ?_)
  have hP : va_P (am_D K1) vwCl (am_ws K1 am_M0 ++ [(h0, .inr (3, [.int 0, .int 0, .ref q1, .int 0, .int 0, .int 0]))]) H := hP
  have hD : va_D A (am_ws K1 am_M0 ++ [(h0, .inr (3, [.int 0, .int 0, .ref q1, .int 0, .int 0, .int 0]))]) := hD
  have hfree : ∀ r ∈ am_dom K1, r ≠ (3, 0, 0) ∧ am_apart r (3, 0, 0) = true := by rw [hdm]; decide +kernel
  have hent : am_e (am_ext K1 (3, 0, 0) h0) am_M0 (3, 0, 0) = .inr (3, [.int 0, .int 0, .ref q1, .int 0, .int 0, .int 0]) := by
    rw [am_e_obj sh_3]
    have had : am_ad (am_ext K1 (3, 0, 0) h0) = fun r => if r = (3, 0, 0) then h0 else am_ad K1 r := rfl
    have hoq : am_opq (am_ext K1 (3, 0, 0) h0) = fun _ _ => .null := eo
    simp only [am_fv, had, hoq, ea1, am_f3, am_ff]
    rfl
  have ew := am_ws_ext (K := K1) (M := am_M0) (q := h0) hfree
  rw [hent] at ew
  rw [← ew] at hP hD
  have eK : am_ext K1 (3, 0, 0) h0 = am_mk l D cA (am_ad (am_ext K1 (3, 0, 0) h0)) am_dom_X3_init := by
    show (am_l K1, am_D K1, _, am_opq K1, am_cA K1, am_dom K1 ++ [(3, 0, 0)]) = _
    rw [el, ed, eo, ec, hdm]
    rfl
  rw [eK] at hP hD
  rw [ed] at hP
  exact W.vret hx hb hr (fun t ht hW => ⟨⟨am_ad (am_ext K1 (3, 0, 0) h0), rfl, (show (if ((3, 0, 0) : am_L) = (3, 0, 0) then h0 else am_ad K1 (3, 0, 0)) = h0 from if_pos rfl), by rw [ht]; exact hP, hD⟩, hS.F ht⟩) hS.2.2 dX3_init_13
def am_dom_X0_init : List am_L := [(102, 0, 0), (103, 0, 0), (104, 0, 0), (105, 0, 0), (106, 0, 0), (107, 0, 0), (0, 0, 0)]
set_option maxHeartbeats 8000000 in
set_option maxRecDepth 100000 in
theorem c_X0_init (l : Launch) (D : va_G) (cA : Nat → ClassId) (h0 sz : Nat) : Met l m_X0_init.2.1 (am_tw m_X0_init) { frames := 1, cells := 6, slots := 750, locals := 60 } (cn_Pc l D cA 0 h0 sz [.int 0, .int 0, .null, .null, .null, .null, .null, .null]) (cn_Qc l D cA 0 h0 sz [.int 0, .int 0, .null, .null, .null, .null, .null, .null] am_dom_X0_init) 6 750 (va_A [(h0, .inr (0, [.int 0, .int 0, .null, .null, .null, .null, .null, .null]))] sz) := by
  refine Met.ofW (cc := cX0_init) (maxL := 1) (ret := none) cb_X0_init.2.2.2.2.1 rfl ?_
  intro p e s m args below meth c s₁ B hml hv
  obtain ⟨rfl, hsz, hP, hK, hD0, hFw⟩ := hv
  unfold cn_Qc
  have hx := B.exec
  have hb := B.bytes
  have hr := B.returns
  have hts0 := atoms_spec (ws := am_tw m_X0_init) B.pre
  have hts : ∀ w ∈ am_T, w.before #[Value.ref h0] s = true := fun w hw => hts0 w (List.mem_cons_of_mem _ hw)
  have hown : s.vm.findClass RX0 = some m.cls := findClass_of_methodNamed B.named
  have hlocks := B.notSynchronized
  have hin : meth.name = "<init>" := (name_of_methodNamed B.named B.method).1
  subst hsz
  have hD := hD0.self (sz := s.heap.size)
  generalize hAe : va_A [(h0, .inr (0, [.int 0, .int 0, .null, .null, .null, .null, .null, .null]))] s.heap.size = A at hD ⊢
  have hA : ∀ q : Nat, s.heap.size ≤ q → A q := fun q h => by rw [← hAe]; exact Or.inr h
  have hS : va_S A s.heap s.heap [] := va_S.rf
  obtain ⟨K, hKe⟩ : ∃ K, K = am_mk l D cA (fun _ => 0) [] := ⟨_, rfl⟩
  have hdm : am_dom K = [] := by rw [hKe]; rfl
  have ed : am_D K = D := by rw [hKe]; rfl
  have ec : am_cA K = cA := by rw [hKe]; rfl
  have el : am_l K = l := by rw [hKe]; rfl
  have eo : am_opq K = fun _ _ => .null := by rw [hKe]; rfl
  have hK : va_K (am_D K) vwCl (am_tys K) s := by rw [hKe]; exact hK
  have hw0 : am_ws K am_M0 = [] := by unfold am_ws; rw [hdm]; rfl
  have hP : va_P (am_D K) vwCl (am_ws K am_M0 ++ [(h0, .inr (0, [.int 0, .int 0, .null, .null, .null, .null, .null, .null]))]) s.heap := by rw [hw0, ed]; exact hP
  have hD : va_D A (am_ws K am_M0 ++ [(h0, .inr (0, [.int 0, .int 0, .null, .null, .null, .null, .null, .null]))]) := by rw [hw0]; exact hD
  have hl := lv_entry ([.ref h0]) (n := 1) (Nat.le_of_ble_eq_true rfl)
  rw [lg_entry_eq]
  generalize (lg_sl ([.ref h0]) ++ List.replicate (1 - (lg_sl ([.ref h0])).length) Slot.unset).toArray = ls at hl ⊢
  have hl : lv_has ls 1 [(0, .ref h0)] := hl
  refine lv_aload_n hx hb dX0_init_0 rfl (lv_at hl 0 rfl) ?_
  refine W.objInit hx hb hown (hts (.methodLink RX0 3 objectInit) (am_Tt 106 (by decide +kernel) rfl)) (hts _ cn_oI) (hts _ cn_oC) rfl (by rw [hml]; exact hl.1) rfl dX0_init_1 (Nat.le_of_ble_eq_true rfl) (Nat.le_of_ble_eq_true rfl) ?_
  refine W.eq (g2 := F0 m 4 ls []) rfl ?_
  refine lv_aload_n hx hb dX0_init_4 rfl (lv_at hl 0 rfl) ?_
  refine lv_bipush hx hb dX0_init_5 bp_25 ?_
  refine cn_new1 (K := K) (M := am_M0) (t := 0) (n := 25) (k := 102) hx hb dX0_init_7 (hts _ cn_wI) hK rfl (fun h => h) (fun q => am_e_int sh_102) (cn_zi (by decide) (by decide) (by decide)) (by rw [hdm]; decide +kernel) (by decide) (by decide +kernel) (by decide +kernel) (Nat.le_of_ble_eq_true rfl) (Nat.le_of_ble_eq_true rfl) hP hD hS hA (fun q1 H hP hD hS => ?_)
  have hP : va_P (am_D (am_ext K (102, 0, 0) q1)) vwCl _ H := hP
  generalize hK1 : am_ext K (102, 0, 0) q1 = K1 at hP hD
  have hdm : am_dom K1 = [(102, 0, 0)] := by rw [← hK1]; show am_dom K ++ [(102, 0, 0)] = _; rw [hdm]; rfl
  have hK : va_K (am_D K1) vwCl (am_tys K1) s := by rw [← hK1]; exact hK
  have ea1 : am_ad K1 = fun r => if r = (102, 0, 0) then q1 else am_ad K r := by rw [← hK1]; rfl
  have ed : am_D K1 = D := by rw [← hK1]; exact ed
  have ec : am_cA K1 = cA := by rw [← hK1]; exact ec
  have el : am_l K1 = l := by rw [← hK1]; exact el
  have eo : am_opq K1 = fun _ _ => .null := by rw [← hK1]; exact eo
  refine cn_put (K := K1) (M := am_M0) (own := RX0) (h0 := h0) (ex2 := []) (v := .ref q1) hx hb hts hown hin hK fi_X0 tyX0 tyX0_ok nmX0 rfl (by decide) (am_Tt 110 (by decide +kernel) rfl) rfl rfl (tyX0_ok 2 (by decide)) rfl rfl (Nat.le_of_ble_eq_true rfl) dX0_init_9 hP hD hS (fun H locs hP hD hS => ?_)
  have hP : va_P (am_D K1) vwCl (am_ws K1 am_M0 ++ [(h0, .inr (0, [.int 0, .int 0, .ref q1, .null, .null, .null, .null, .null]))]) H := hP
  have hD : va_D A (am_ws K1 am_M0 ++ [(h0, .inr (0, [.int 0, .int 0, .ref q1, .null, .null, .null, .null, .null]))]) := hD
  refine lv_aload_n hx hb dX0_init_12 rfl (lv_at hl 0 rfl) ?_
  refine lv_bipush hx hb dX0_init_13 bp_25 ?_
  refine cn_new1 (K := K1) (M := am_M0) (t := 0) (n := 25) (k := 103) hx hb dX0_init_15 (hts _ cn_wI) hK rfl (fun h => h) (fun q => am_e_int sh_103) (cn_zi (by decide) (by decide) (by decide)) (by rw [hdm]; decide +kernel) (by decide) (by decide +kernel) (by decide +kernel) (Nat.le_of_ble_eq_true rfl) (Nat.le_of_ble_eq_true rfl) hP hD hS hA (fun q2 H hP hD hS => ?_)
  have hP : va_P (am_D (am_ext K1 (103, 0, 0) q2)) vwCl _ H := hP
  generalize hK2 : am_ext K1 (103, 0, 0) q2 = K2 at hP hD
  have hdm : am_dom K2 = [(102, 0, 0), (103, 0, 0)] := by rw [← hK2]; show am_dom K1 ++ [(103, 0, 0)] = _; rw [hdm]; rfl
  have hK : va_K (am_D K2) vwCl (am_tys K2) s := by rw [← hK2]; exact hK
  have ea2 : am_ad K2 = fun r => if r = (103, 0, 0) then q2 else am_ad K1 r := by rw [← hK2]; rfl
  have ed : am_D K2 = D := by rw [← hK2]; exact ed
  have ec : am_cA K2 = cA := by rw [← hK2]; exact ec
  have el : am_l K2 = l := by rw [← hK2]; exact el
  have eo : am_opq K2 = fun _ _ => .null := by rw [← hK2]; exact eo
  refine cn_put (K := K2) (M := am_M0) (own := RX0) (h0 := h0) (ex2 := []) (v := .ref q2) hx hb hts hown hin hK fi_X0 tyX0 tyX0_ok nmX0 rfl (by decide) (am_Tt 112 (by decide +kernel) rfl) rfl rfl (tyX0_ok 3 (by decide)) rfl rfl (Nat.le_of_ble_eq_true rfl) dX0_init_17 hP hD hS (fun H locs hP hD hS => ?_)
  have hP : va_P (am_D K2) vwCl (am_ws K2 am_M0 ++ [(h0, .inr (0, [.int 0, .int 0, .ref q1, .ref q2, .null, .null, .null, .null]))]) H := hP
  have hD : va_D A (am_ws K2 am_M0 ++ [(h0, .inr (0, [.int 0, .int 0, .ref q1, .ref q2, .null, .null, .null, .null]))]) := hD
  refine lv_aload_n hx hb dX0_init_20 rfl (lv_at hl 0 rfl) ?_
  refine lv_bipush hx hb dX0_init_21 bp_25 ?_
  refine cn_new1 (K := K2) (M := am_M0) (t := 0) (n := 25) (k := 104) hx hb dX0_init_23 (hts _ cn_wI) hK rfl (fun h => h) (fun q => am_e_int sh_104) (cn_zi (by decide) (by decide) (by decide)) (by rw [hdm]; decide +kernel) (by decide) (by decide +kernel) (by decide +kernel) (Nat.le_of_ble_eq_true rfl) (Nat.le_of_ble_eq_true rfl) hP hD hS hA (fun q3 H hP hD hS => ?_)
  have hP : va_P (am_D (am_ext K2 (104, 0, 0) q3)) vwCl _ H := hP
  generalize hK3 : am_ext K2 (104, 0, 0) q3 = K3 at hP hD
  have hdm : am_dom K3 = [(102, 0, 0), (103, 0, 0), (104, 0, 0)] := by rw [← hK3]; show am_dom K2 ++ [(104, 0, 0)] = _; rw [hdm]; rfl
  have hK : va_K (am_D K3) vwCl (am_tys K3) s := by rw [← hK3]; exact hK
  have ea3 : am_ad K3 = fun r => if r = (104, 0, 0) then q3 else am_ad K2 r := by rw [← hK3]; rfl
  have ed : am_D K3 = D := by rw [← hK3]; exact ed
  have ec : am_cA K3 = cA := by rw [← hK3]; exact ec
  have el : am_l K3 = l := by rw [← hK3]; exact el
  have eo : am_opq K3 = fun _ _ => .null := by rw [← hK3]; exact eo
  refine cn_put (K := K3) (M := am_M0) (own := RX0) (h0 := h0) (ex2 := []) (v := .ref q3) hx hb hts hown hin hK fi_X0 tyX0 tyX0_ok nmX0 rfl (by decide) (am_Tt 113 (by decide +kernel) rfl) rfl rfl (tyX0_ok 4 (by decide)) rfl rfl (Nat.le_of_ble_eq_true rfl) dX0_init_25 hP hD hS (fun H locs hP hD hS => ?_)
  have hP : va_P (am_D K3) vwCl (am_ws K3 am_M0 ++ [(h0, .inr (0, [.int 0, .int 0, .ref q1, .ref q2, .ref q3, .null, .null, .null]))]) H := hP
  have hD : va_D A (am_ws K3 am_M0 ++ [(h0, .inr (0, [.int 0, .int 0, .ref q1, .ref q2, .ref q3, .null, .null, .null]))]) := hD
  refine lv_aload_n hx hb dX0_init_28 rfl (lv_at hl 0 rfl) ?_
  refine lv_bipush hx hb dX0_init_29 bp_25 ?_
  refine cn_new1 (K := K3) (M := am_M0) (t := 0) (n := 25) (k := 105) hx hb dX0_init_31 (hts _ cn_wI) hK rfl (fun h => h) (fun q => am_e_int sh_105) (cn_zi (by decide) (by decide) (by decide)) (by rw [hdm]; decide +kernel) (by decide) (by decide +kernel) (by decide +kernel) (Nat.le_of_ble_eq_true rfl) (Nat.le_of_ble_eq_true rfl) hP hD hS hA (fun q4 H hP hD hS => ?_)
  have hP : va_P (am_D (am_ext K3 (105, 0, 0) q4)) vwCl _ H := hP
  generalize hK4 : am_ext K3 (105, 0, 0) q4 = K4 at hP hD
  have hdm : am_dom K4 = [(102, 0, 0), (103, 0, 0), (104, 0, 0), (105, 0, 0)] := by rw [← hK4]; show am_dom K3 ++ [(105, 0, 0)] = _; rw [hdm]; rfl
  have hK : va_K (am_D K4) vwCl (am_tys K4) s := by rw [← hK4]; exact hK
  have ea4 : am_ad K4 = fun r => if r = (105, 0, 0) then q4 else am_ad K3 r := by rw [← hK4]; rfl
  have ed : am_D K4 = D := by rw [← hK4]; exact ed
  have ec : am_cA K4 = cA := by rw [← hK4]; exact ec
  have el : am_l K4 = l := by rw [← hK4]; exact el
  have eo : am_opq K4 = fun _ _ => .null := by rw [← hK4]; exact eo
  refine cn_put (K := K4) (M := am_M0) (own := RX0) (h0 := h0) (ex2 := []) (v := .ref q4) hx hb hts hown hin hK fi_X0 tyX0 tyX0_ok nmX0 rfl (by decide) (am_Tt 114 (by decide +kernel) rfl) rfl rfl (tyX0_ok 5 (by decide)) rfl rfl (Nat.le_of_ble_eq_true rfl) dX0_init_33 hP hD hS (fun H locs hP hD hS => ?_)
  have hP : va_P (am_D K4) vwCl (am_ws K4 am_M0 ++ [(h0, .inr (0, [.int 0, .int 0, .ref q1, .ref q2, .ref q3, .ref q4, .null, .null]))]) H := hP
  have hD : va_D A (am_ws K4 am_M0 ++ [(h0, .inr (0, [.int 0, .int 0, .ref q1, .ref q2, .ref q3, .ref q4, .null, .null]))]) := hD
  refine lv_aload_n hx hb dX0_init_36 rfl (lv_at hl 0 rfl) ?_
  refine lv_bipush hx hb dX0_init_37 bp_25 ?_
  refine cn_new1 (K := K4) (M := am_M0) (t := 2) (n := 25) (k := 106) hx hb dX0_init_39 (hts _ cn_wJ) hK rfl (fun h => h) (fun q => am_e_long sh_106) (cn_zl) (by rw [hdm]; decide +kernel) (by decide) (by decide +kernel) (by decide +kernel) (Nat.le_of_ble_eq_true rfl) (Nat.le_of_ble_eq_true rfl) hP hD hS hA (fun q5 H hP hD hS => ?_)
  have hP : va_P (am_D (am_ext K4 (106, 0, 0) q5)) vwCl _ H := hP
  generalize hK5 : am_ext K4 (106, 0, 0) q5 = K5 at hP hD
  have hdm : am_dom K5 = [(102, 0, 0), (103, 0, 0), (104, 0, 0), (105, 0, 0), (106, 0, 0)] := by rw [← hK5]; show am_dom K4 ++ [(106, 0, 0)] = _; rw [hdm]; rfl
  have hK : va_K (am_D K5) vwCl (am_tys K5) s := by rw [← hK5]; exact hK
  have ea5 : am_ad K5 = fun r => if r = (106, 0, 0) then q5 else am_ad K4 r := by rw [← hK5]; rfl
  have ed : am_D K5 = D := by rw [← hK5]; exact ed
  have ec : am_cA K5 = cA := by rw [← hK5]; exact ec
  have el : am_l K5 = l := by rw [← hK5]; exact el
  have eo : am_opq K5 = fun _ _ => .null := by rw [← hK5]; exact eo
  refine cn_put (K := K5) (M := am_M0) (own := RX0) (h0 := h0) (ex2 := []) (v := .ref q5) hx hb hts hown hin hK fi_X0 tyX0 tyX0_ok nmX0 rfl (by decide) (am_Tt 115 (by decide +kernel) rfl) rfl rfl (tyX0_ok 6 (by decide)) rfl rfl (Nat.le_of_ble_eq_true rfl) dX0_init_41 hP hD hS (fun H locs hP hD hS => ?_)
  have hP : va_P (am_D K5) vwCl (am_ws K5 am_M0 ++ [(h0, .inr (0, [.int 0, .int 0, .ref q1, .ref q2, .ref q3, .ref q4, .ref q5, .null]))]) H := hP
  have hD : va_D A (am_ws K5 am_M0 ++ [(h0, .inr (0, [.int 0, .int 0, .ref q1, .ref q2, .ref q3, .ref q4, .ref q5, .null]))]) := hD
  refine lv_aload_n hx hb dX0_init_44 rfl (lv_at hl 0 rfl) ?_
  refine lv_sipush hx hb dX0_init_45 sp_625 ?_
  refine cn_new1 (K := K5) (M := am_M0) (t := 0) (n := 625) (k := 107) hx hb dX0_init_48 (hts _ cn_wI) hK rfl (fun h => h) (fun q => am_e_int sh_107) (cn_zi (by decide) (by decide) (by decide)) (by rw [hdm]; decide +kernel) (by decide) (by decide +kernel) (by decide +kernel) (Nat.le_of_ble_eq_true rfl) (Nat.le_of_ble_eq_true rfl) hP hD hS hA (fun q6 H hP hD hS => ?_)
  have hP : va_P (am_D (am_ext K5 (107, 0, 0) q6)) vwCl _ H := hP
  generalize hK6 : am_ext K5 (107, 0, 0) q6 = K6 at hP hD
  have hdm : am_dom K6 = [(102, 0, 0), (103, 0, 0), (104, 0, 0), (105, 0, 0), (106, 0, 0), (107, 0, 0)] := by rw [← hK6]; show am_dom K5 ++ [(107, 0, 0)] = _; rw [hdm]; rfl
  have hK : va_K (am_D K6) vwCl (am_tys K6) s := by rw [← hK6]; exact hK
  have ea6 : am_ad K6 = fun r => if r = (107, 0, 0) then q6 else am_ad K5 r := by rw [← hK6]; rfl
  have ed : am_D K6 = D := by rw [← hK6]; exact ed
  have ec : am_cA K6 = cA := by rw [← hK6]; exact ec
  have el : am_l K6 = l := by rw [← hK6]; exact el
  have eo : am_opq K6 = fun _ _ => .null := by rw [← hK6]; exact eo
  refine cn_put (K := K6) (M := am_M0) (own := RX0) (h0 := h0) (ex2 := []) (v := .ref q6) hx hb hts hown hin hK fi_X0 tyX0 tyX0_ok nmX0 rfl (by decide) (am_Tt 116 (by decide +kernel) rfl) rfl rfl (tyX0_ok 7 (by decide)) rfl rfl (Nat.le_of_ble_eq_true rfl) dX0_init_50 hP hD hS (fun H locs hP hD hS => ?_)
  have hP : va_P (am_D K6) vwCl (am_ws K6 am_M0 ++ [(h0, .inr (0, [.int 0, .int 0, .ref q1, .ref q2, .ref q3, .ref q4, .ref q5, .ref q6]))]) H := hP
  have hD : va_D A (am_ws K6 am_M0 ++ [(h0, .inr (0, [.int 0, .int 0, .ref q1, .ref q2, .ref q3, .ref q4, .ref q5, .ref q6]))]) := hD
  have hfree : ∀ r ∈ am_dom K6, r ≠ (0, 0, 0) ∧ am_apart r (0, 0, 0) = true := by rw [hdm]; decide +kernel
  have hent : am_e (am_ext K6 (0, 0, 0) h0) am_M0 (0, 0, 0) = .inr (0, [.int 0, .int 0, .ref q1, .ref q2, .ref q3, .ref q4, .ref q5, .ref q6]) := by
    rw [am_e_obj sh_0]
    have had : am_ad (am_ext K6 (0, 0, 0) h0) = fun r => if r = (0, 0, 0) then h0 else am_ad K6 r := rfl
    have hoq : am_opq (am_ext K6 (0, 0, 0) h0) = fun _ _ => .null := eo
    simp only [am_fv, had, hoq, ea6, ea5, ea4, ea3, ea2, ea1, am_f0, am_ff]
    rfl
  have ew := am_ws_ext (K := K6) (M := am_M0) (q := h0) hfree
  rw [hent] at ew
  rw [← ew] at hP hD
  have eK : am_ext K6 (0, 0, 0) h0 = am_mk l D cA (am_ad (am_ext K6 (0, 0, 0) h0)) am_dom_X0_init := by
    show (am_l K6, am_D K6, _, am_opq K6, am_cA K6, am_dom K6 ++ [(0, 0, 0)]) = _
    rw [el, ed, eo, ec, hdm]
    rfl
  rw [eK] at hP hD
  rw [ed] at hP
  exact W.vret hx hb hr (fun t ht hW => ⟨⟨am_ad (am_ext K6 (0, 0, 0) h0), rfl, (show (if ((0, 0, 0) : am_L) = (0, 0, 0) then h0 else am_ad K6 (0, 0, 0)) = h0 from if_pos rfl), by rw [ht]; exact hP, hD⟩, hS.F ht⟩) hS.2.2 dX0_init_53
