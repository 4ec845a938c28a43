/-- order(), behind fresh() -/
def f_X5_orderB (x1 x2 : Int32) (M : am_M) : Option (Int32 × am_M) := am_let (am_si M 5 1 0 39 1) (fun M2 => (f_X5_seek 6 M2 1 0 0 x1).bind (fun M3 => if am_inb x2 4 = true then some (M3.1 637 1 0 x2.toNatClampNeg, M3) else none))
def f_X5_order (tr : Bool) (M : am_M) (x1 x2 : Int32) : Option (Bool × Int32 × am_M) := (f_X5_in M x2.toInt64 0 ((M.1 5 0 0 10 - 1).toInt64)).bind (fun r => if r = 0 then (f_X5_refuse M 0 (-2)).bind (fun z => some (tr, z.1, z.2)) else (f_X5_takeFrom (am_cond tr M 1) 1 0).bind (fun M1 => (f_X5_orderB x1 x2 M1).bind (fun z => some (true, z.1, z.2))))
theorem c_X5_order {K : am_K} {M : am_M} {tr kp : Bool} {x1 x2 : Int32} {y : Bool × Int32 × am_M} (hs : am_Kst K tr kp) (h : f_X5_order tr M x1 x2 = some y) : am_Met2 K { am_rm2 with frames := 20, locals := 1200 } m_X5_order [.inr (.inr (5, 0, 0)), .inl x1, .inl x2] M (fun K1 r N => r = some (.inl y.2.1) ∧ N = y.2.2 ∧ am_Kst K1 y.1 kp) 187 4694 := by
  refine am_Met2_of cb_X5_order (Nat.le_of_ble_eq_true rfl) (fun F sz hF => ?_)
  show gv F m_X5_order K 0 0 0 [(0, .inr (.inr (5, 0, 0))), (1, .inl x1), (2, .inl x2)] [] M
  have hR := hF.1
  have hold := (((am_M2_A0 hF).2 K (am_Ex.rf K)).2)
  unfold f_X5_order at h
  obtain ⟨r, h1, h⟩ := am_bnd h
  refine gv_iload_n dX5_order_0 rfl ?_
  refine gv_i2l dX5_order_1 ?_
  refine gv_lconst dX5_order_2 rfl ?_
  refine gv_aload_n dX5_order_3 rfl ?_
  refine gv_getI dX5_order_4 fl_RX5_130 sh_5 rfl hk_5 ?_
  refine gv_iconst dX5_order_7 ic_1 ?_
  refine gv_isub dX5_order_8 ?_
  refine gv_i2l dX5_order_9 ?_
  refine gv_callSi 0 (as := [.inr (.inl x2.toInt64), .inr (.inl 0), .inr (.inl (M.1 5 0 0 10 - 1).toInt64)]) hold (by rw [hR]; exact ⟨by decide, by decide, by decide, by decide⟩) dX5_order_10 cs_RX5_95 cb_X5_in rfl rfl (Nat.le_of_ble_eq_true rfl) (c_X5_in (d := 0) h1) ?_
  refine gv_if_ne 23 dX5_order_13 rfl (fun b => ?_) (fun b => ?_)
  · replace h := am_ifF b h
    obtain ⟨M1, h2, h⟩ := am_bnd h
    obtain ⟨z, h3, h⟩ := am_bnd h
    obtain rfl := Option.some.inj h
    unfold f_X5_orderB at h3
    obtain ⟨M2, e2, h3⟩ := am_letE h3
    obtain ⟨M3, h4, h3⟩ := am_bnd h3
    obtain ⟨g5, h3⟩ := am_grd h3
    obtain rfl := Option.some.inj h3
    refine gv_aload_n dX5_order_23 rfl ?_
    refine gv_callM (as := []) (((am_M2_A0 hF).2 K (am_Ex.rf K)).2) hF.2.2.2.1 (by rw [hR]; exact ⟨rfl, rfl, by decide, by decide⟩) (by rw [hR]; exact ⟨by decide, by decide⟩) (am_M2_A0 hF).1 ((am_M2_A0 hF).2 K (am_Ex.rf K)).1 dX5_order_24 cv_RX5_241 cb_X5_fresh sh_5 rfl hk_5 rfl rfl (Nat.le_of_ble_eq_true rfl) (c_X5_fresh hs h2) (fun K1 q N hE hq => ?_)
    obtain ⟨rfl, rfl, hs1⟩ := hq
    have hold1 := (((am_M2_A0 hF).2 K1 hE).2)
    show gv F m_X5_order K1 (0 + 187) (0 + 4694) 27 [(0, .inr (.inr (5, 0, 0))), (1, .inl x1), (2, .inl x2)] [.inr (.inr (5, 1, 0))] N
    refine gv_astore_n (ls' := [(0, .inr (.inr (5, 0, 0))), (1, .inl x1), (2, .inl x2), (3, .inr (.inr (5, 1, 0)))]) dX5_order_27 (Nat.le_of_ble_eq_true rfl) rfl ?_
    refine gv_aload_n dX5_order_28 rfl ?_
    refine gv_iconst dX5_order_29 ic_1 ?_
    refine gv_putI dX5_order_30 fl_RX5_340 fp_X5_39 sh_5 rfl (am_narZ (by decide)) (am_fitZ (by decide)) hk_5 ?_
    refine gv_mem e2 ?_
    refine gv_aload_n dX5_order_33 rfl ?_
    refine gv_iconst dX5_order_34 ic_0 ?_
    refine gv_iconst dX5_order_35 ic_0 ?_
    refine gv_iload_n dX5_order_36 rfl ?_
    refine gv_callVv 8 (as := [.inl 0, .inl 0, .inl x1]) hold1 (by rw [hR]; exact ⟨by decide, by decide, by decide, by decide⟩) dX5_order_37 cv_RX5_348 cb_X5_seek sh_5 rfl hk_5 rfl rfl (Nat.le_of_ble_eq_true rfl) (c_X5_seek 6 0 _ _ _ _ _ _ h4) ?_
    refine gv_aload_n dX5_order_40 rfl ?_
    refine gv_getR (o' := 1) dX5_order_41 fl_RX5_90 sh_5 rfl rfl hk_5 ?_
    refine gv_iload_n dX5_order_44 rfl ?_
    refine gv_iaload dX5_order_45 sh_637 hk_637 (am_inbE g5) ?_
    exact gv_ret2 hF hE (by decide) (by decide) dX5_order_46 rfl ⟨rfl, rfl, hs1⟩
  · replace h := am_ifT b h
    obtain ⟨z, h2, h⟩ := am_bnd h
    obtain rfl := Option.some.inj h
    refine gv_aload_n dX5_order_16 rfl ?_
    refine gv_bipush dX5_order_17 bp_m2 ?_
    refine gv_callVi 0 (as := [.inl (-2)]) hold (by rw [hR]; exact ⟨by decide, by decide, by decide, by decide⟩) dX5_order_19 cv_RX5_103 cb_X5_refuse sh_5 rfl hk_5 rfl rfl (Nat.le_of_ble_eq_true rfl) (c_X5_refuse (d := 0) h2) ?_
    exact gv_ret2 hF (am_Ex.rf K) (by decide) (by decide) dX5_order_22 rfl ⟨rfl, rfl, hs⟩
