def f_X2_isRow (M : am_M) (o : Nat) : Option (Int32) :=
  (if (M.1 2 o 0 0) < 0 then some (0 : Int32) else (if (5 : Int32) ≤ (M.1 2 o 0 0) then some (0 : Int32) else some (1 : Int32)))
set_option maxHeartbeats 4000000 in
theorem w_X2_isRow {K : am_K} {d : Nat} {post : Option am_V → am_M → Prop} {M : am_M} {o : Nat} {y : Int32} (h : f_X2_isRow M o = some y) (hp : post (some (.inl y)) M) : am_W K d m_X2_isRow 0 [(0, .inr (.inr (2, o, 0)))] [] M post := by
  unfold f_X2_isRow at h
  refine am_aload_n dX2_isRow_0 rfl ?_
  refine am_getI dX2_isRow_1 fl_RX2_9 sh_2 rfl hk_2 ?_
  refine am_if_lt 19 dX2_isRow_4 rfl (fun b2 => ?_) (fun b2 => ?_)
  · replace h := am_ifT b2 h
    refine am_iconst dX2_isRow_19 ic_0 ?_
    obtain rfl := Option.some.inj h
    exact am_ireturn dX2_isRow_20 rfl (am_narZ (by decide)) hp
  · replace h := am_ifF b2 h
    refine am_aload_n dX2_isRow_7 rfl ?_
    refine am_getI dX2_isRow_8 fl_RX2_9 sh_2 rfl hk_2 ?_
    refine am_iconst dX2_isRow_11 ic_5 ?_
    refine am_icmp_ge 19 dX2_isRow_12 rfl (fun b1 => ?_) (fun b1 => ?_)
    · replace h := am_ifT b1 h
      refine am_iconst dX2_isRow_19 ic_0 ?_
      obtain rfl := Option.some.inj h
      exact am_ireturn dX2_isRow_20 rfl (am_narZ (by decide)) hp
    · replace h := am_ifF b1 h
      refine am_iconst dX2_isRow_15 ic_1 ?_
      refine am_goto 20 dX2_isRow_16 rfl ?_
      obtain rfl := Option.some.inj h
      exact am_ireturn dX2_isRow_20 rfl (am_narZ (by decide)) hp
theorem c_X2_isRow {K : am_K} {d : Nat} {M : am_M} {o : Nat} {y : Int32} (h : f_X2_isRow M o = some y) : am_Met K d m_X2_isRow [.inr (.inr (2, o, 0))] M (fun q N => q = some (.inl y) ∧ N = M) :=
  am_Met_of cb_X2_isRow (Nat.le_of_ble_eq_true rfl) (w_X2_isRow h ⟨rfl, rfl⟩)
def f_X2_isDrawing (M : am_M) (o : Nat) : Option (Int32) :=
  (if (M.1 2 o 0 0) < (10 : Int32) then some (0 : Int32) else some (1 : Int32))
set_option maxHeartbeats 4000000 in
theorem w_X2_isDrawing {K : am_K} {d : Nat} {post : Option am_V → am_M → Prop} {M : am_M} {o : Nat} {y : Int32} (h : f_X2_isDrawing M o = some y) (hp : post (some (.inl y)) M) : am_W K d m_X2_isDrawing 0 [(0, .inr (.inr (2, o, 0)))] [] M post := by
  unfold f_X2_isDrawing at h
  refine am_aload_n dX2_isDrawing_0 rfl ?_
  refine am_getI dX2_isDrawing_1 fl_RX2_9 sh_2 rfl hk_2 ?_
  refine am_bipush dX2_isDrawing_4 bp_10 ?_
  refine am_icmp_lt 13 dX2_isDrawing_6 rfl (fun b1 => ?_) (fun b1 => ?_)
  · replace h := am_ifT b1 h
    refine am_iconst dX2_isDrawing_13 ic_0 ?_
    obtain rfl := Option.some.inj h
    exact am_ireturn dX2_isDrawing_14 rfl (am_narZ (by decide)) hp
  · replace h := am_ifF b1 h
    refine am_iconst dX2_isDrawing_9 ic_1 ?_
    refine am_goto 14 dX2_isDrawing_10 rfl ?_
    obtain rfl := Option.some.inj h
    exact am_ireturn dX2_isDrawing_14 rfl (am_narZ (by decide)) hp
theorem c_X2_isDrawing {K : am_K} {d : Nat} {M : am_M} {o : Nat} {y : Int32} (h : f_X2_isDrawing M o = some y) : am_Met K d m_X2_isDrawing [.inr (.inr (2, o, 0))] M (fun q N => q = some (.inl y) ∧ N = M) :=
  am_Met_of cb_X2_isDrawing (Nat.le_of_ble_eq_true rfl) (w_X2_isDrawing h ⟨rfl, rfl⟩)
def f_X2_kind (M : am_M) (o : Nat) : Option (Int32) :=
  some ((M.1 2 o 0 0) - (10 : Int32))
set_option maxHeartbeats 4000000 in
theorem w_X2_kind {K : am_K} {d : Nat} {post : Option am_V → am_M → Prop} {M : am_M} {o : Nat} {y : Int32} (h : f_X2_kind M o = some y) (hp : post (some (.inl y)) M) : am_W K d m_X2_kind 0 [(0, .inr (.inr (2, o, 0)))] [] M post := by
  unfold f_X2_kind at h
  refine am_aload_n dX2_kind_0 rfl ?_
  refine am_getI dX2_kind_1 fl_RX2_9 sh_2 rfl hk_2 ?_
  refine am_bipush dX2_kind_4 bp_10 ?_
  refine am_isub dX2_kind_6 ?_
  obtain rfl := Option.some.inj h
  exact am_ireturn dX2_kind_7 rfl rfl hp
theorem c_X2_kind {K : am_K} {d : Nat} {M : am_M} {o : Nat} {y : Int32} (h : f_X2_kind M o = some y) : am_Met K d m_X2_kind [.inr (.inr (2, o, 0))] M (fun q N => q = some (.inl y) ∧ N = M) :=
  am_Met_of cb_X2_kind (Nat.le_of_ble_eq_true rfl) (w_X2_kind h ⟨rfl, rfl⟩)
def f_X2_hasElement (M : am_M) (o : Nat) (x1 : Int32) : Option (Int32) :=
  (f_X4_isWithin M x1 ((M.1 2 o 0 1) - (1 : Int32))).bind (fun r2 => if (r2 = 0 ∨ r2 = 1) then some r2 else none)
set_option maxHeartbeats 4000000 in
theorem w_X2_hasElement {K : am_K} {d : Nat} {post : Option am_V → am_M → Prop} {M : am_M} {o : Nat} {x1 : Int32} {y : Int32} (h : f_X2_hasElement M o x1 = some y) (hp : post (some (.inl y)) M) : am_W K (d + 1) m_X2_hasElement 0 [(0, .inr (.inr (2, o, 0))), (1, .inl x1)] [] M post := by
  unfold f_X2_hasElement at h
  refine am_iload_n dX2_hasElement_0 rfl ?_
  refine am_aload_n dX2_hasElement_1 rfl ?_
  refine am_getI dX2_hasElement_2 fl_RX2_19 sh_2 rfl hk_2 ?_
  refine am_iconst dX2_hasElement_5 ic_1 ?_
  refine am_isub dX2_hasElement_6 ?_
  obtain ⟨r2, c1, h⟩ := am_bnd h
  refine am_callNi (as := [.inl x1, .inl ((M.1 2 o 0 1) - (1 : Int32))]) (mi' := m_X4_isWithin) (host := "AlwaysAhead") dX2_hasElement_7 (fun U hU => hU.1) (cs_RX4_54.2) cb_X4_isWithin rfl rfl (Nat.le_of_ble_eq_true rfl) (c_X4_isWithin c1) ?_
  obtain ⟨g3, h⟩ := am_grd h
  obtain rfl := Option.some.inj h
  exact am_ireturn dX2_hasElement_10 rfl (am_narZ g3) hp
theorem c_X2_hasElement {K : am_K} {d : Nat} {M : am_M} {o : Nat} {x1 : Int32} {y : Int32} (h : f_X2_hasElement M o x1 = some y) : am_Met K (d + 1) m_X2_hasElement [.inr (.inr (2, o, 0)), .inl x1] M (fun q N => q = some (.inl y) ∧ N = M) :=
  am_Met_of cb_X2_hasElement (Nat.le_of_ble_eq_true rfl) (w_X2_hasElement h ⟨rfl, rfl⟩)
def f_X2_hasElements (M : am_M) (o : Nat) (x1 : Int32) (x2 : Int32) : Option (Int32) :=
  (f_X4_isWithin M x1 (M.1 2 o 0 1)).bind (fun r2 => (if r2 = 0 then some (0 : Int32) else (f_X4_isWithin M x2 ((M.1 2 o 0 1) - x1)).bind (fun r4 => (if r4 = 0 then some (0 : Int32) else some (1 : Int32)))))
set_option maxHeartbeats 4000000 in
theorem w_X2_hasElements {K : am_K} {d : Nat} {post : Option am_V → am_M → Prop} {M : am_M} {o : Nat} {x1 : Int32} {x2 : Int32} {y : Int32} (h : f_X2_hasElements M o x1 x2 = some y) (hp : post (some (.inl y)) M) : am_W K (d + 1) m_X2_hasElements 0 [(0, .inr (.inr (2, o, 0))), (1, .inl x1), (2, .inl x2)] [] M post := by
  unfold f_X2_hasElements at h
  refine am_iload_n dX2_hasElements_0 rfl ?_
  refine am_aload_n dX2_hasElements_1 rfl ?_
  refine am_getI dX2_hasElements_2 fl_RX2_19 sh_2 rfl hk_2 ?_
  obtain ⟨r2, c1, h⟩ := am_bnd h
  refine am_callNi (as := [.inl x1, .inl (M.1 2 o 0 1)]) (mi' := m_X4_isWithin) (host := "AlwaysAhead") dX2_hasElements_5 (fun U hU => hU.1) (cs_RX4_54.2) cb_X4_isWithin rfl rfl (Nat.le_of_ble_eq_true rfl) (c_X4_isWithin c1) ?_
  refine am_if_eq 28 dX2_hasElements_8 rfl (fun b6 => ?_) (fun b6 => ?_)
  · replace h := am_ifT b6 h
    refine am_iconst dX2_hasElements_28 ic_0 ?_
    obtain rfl := Option.some.inj h
    exact am_ireturn dX2_hasElements_29 rfl (am_narZ (by decide)) hp
  · replace h := am_ifF b6 h
    refine am_iload_n dX2_hasElements_11 rfl ?_
    refine am_aload_n dX2_hasElements_12 rfl ?_
    refine am_getI dX2_hasElements_13 fl_RX2_19 sh_2 rfl hk_2 ?_
    refine am_iload_n dX2_hasElements_16 rfl ?_
    refine am_isub dX2_hasElements_17 ?_
    obtain ⟨r4, c3, h⟩ := am_bnd h
    refine am_callNi (as := [.inl x2, .inl ((M.1 2 o 0 1) - x1)]) (mi' := m_X4_isWithin) (host := "AlwaysAhead") dX2_hasElements_18 (fun U hU => hU.1) (cs_RX4_54.2) cb_X4_isWithin rfl rfl (Nat.le_of_ble_eq_true rfl) (c_X4_isWithin c3) ?_
    refine am_if_eq 28 dX2_hasElements_21 rfl (fun b5 => ?_) (fun b5 => ?_)
    · replace h := am_ifT b5 h
      refine am_iconst dX2_hasElements_28 ic_0 ?_
      obtain rfl := Option.some.inj h
      exact am_ireturn dX2_hasElements_29 rfl (am_narZ (by decide)) hp
    · replace h := am_ifF b5 h
      refine am_iconst dX2_hasElements_24 ic_1 ?_
      refine am_goto 29 dX2_hasElements_25 rfl ?_
      obtain rfl := Option.some.inj h
      exact am_ireturn dX2_hasElements_29 rfl (am_narZ (by decide)) hp
theorem c_X2_hasElements {K : am_K} {d : Nat} {M : am_M} {o : Nat} {x1 : Int32} {x2 : Int32} {y : Int32} (h : f_X2_hasElements M o x1 x2 = some y) : am_Met K (d + 1) m_X2_hasElements [.inr (.inr (2, o, 0)), .inl x1, .inl x2] M (fun q N => q = some (.inl y) ∧ N = M) :=
  am_Met_of cb_X2_hasElements (Nat.le_of_ble_eq_true rfl) (w_X2_hasElements h ⟨rfl, rfl⟩)
def f_X2_put (M : am_M) (o : Nat) (x1 : Int32) (x2 : Int64) : Option (am_M) :=
  (if (M.1 2 o 0 0) = (0 : Int32) then if am_inb x1 40 = true then am_let (am_sl M 303 o 0 x1.toNatClampNeg x2.toInt32.toInt8.toInt32.toInt64) (fun M3 => some M3) else none else if (M.1 2 o 0 0) = (1 : Int32) then if am_inb x1 40 = true then am_let (am_sl M 303 o 0 x1.toNatClampNeg x2.toInt32.toInt16.toInt32.toInt64) (fun M6 => some M6) else none else if (M.1 2 o 0 0) = (2 : Int32) then if am_inb x1 40 = true then am_let (am_sl M 303 o 0 x1.toNatClampNeg x2.toInt32.toInt64) (fun M9 => some M9) else none else if (M.1 2 o 0 0) = (3 : Int32) then if am_inb x1 40 = true then am_let (am_sl M 303 o 0 x1.toNatClampNeg x2) (fun M12 => some M12) else none else if (M.1 2 o 0 0) = (4 : Int32) then (if (lg_cmp x2 (0 : Int64)) = 0 then if am_inb x1 40 = true then am_let (am_sl M 303 o 0 x1.toNatClampNeg (0 : Int64)) (fun M15 => some M15) else none else if am_inb x1 40 = true then am_let (am_sl M 303 o 0 x1.toNatClampNeg (1 : Int64)) (fun M17 => some M17) else none) else if am_inb x1 40 = true then am_let (am_sl M 303 o 0 x1.toNatClampNeg x2) (fun M20 => some M20) else none)
set_option maxHeartbeats 4000000 in
theorem w_X2_put {K : am_K} {d : Nat} {post : Option am_V → am_M → Prop} {M : am_M} {o : Nat} {x1 : Int32} {x2 : Int64} {y : am_M} (h : f_X2_put M o x1 x2 = some y) (hp : post none y) : am_W K d m_X2_put 0 [(0, .inr (.inr (2, o, 0))), (1, .inl x1), (2, .inr (.inl x2))] [] M post := by
  unfold f_X2_put at h
  refine am_aload_n dX2_put_0 rfl ?_
  refine am_getI dX2_put_1 fl_RX2_9 sh_2 rfl hk_2 ?_
  by_cases b1 : (M.1 2 o 0 0) = (0 : Int32)
  · replace h := am_ifT b1 h
    skip
    refine am_swIn 40 dX2_put_4 (by rw [b1]; decide) (by rw [b1]; decide) (by rw [b1]; rfl) rfl ?_
    refine am_aload_n dX2_put_40 rfl ?_
    refine am_getR (o' := o) dX2_put_41 fl_RX2_15 sh_2 rfl rfl hk_2 ?_
    refine am_iload_n dX2_put_44 rfl ?_
    refine am_lload_n dX2_put_45 rfl ?_
    refine am_l2i dX2_put_46 ?_
    refine am_i2b dX2_put_47 ?_
    refine am_i2l dX2_put_48 ?_
    obtain ⟨g2, h⟩ := am_grd h
    obtain ⟨M3, eM3, h⟩ := am_letE h
    refine am_lastore dX2_put_49 sh_303 hk_303 (am_inbE g2) ?_
    refine am_mem eM3 ?_
    refine am_goto 105 dX2_put_50 rfl ?_
    obtain rfl := Option.some.inj h
    exact am_return dX2_put_105 rfl hp
  replace h := am_ifF b1 h
  by_cases b4 : (M.1 2 o 0 0) = (1 : Int32)
  · replace h := am_ifT b4 h
    skip
    refine am_swIn 53 dX2_put_4 (by rw [b4]; decide) (by rw [b4]; decide) (by rw [b4]; rfl) rfl ?_
    refine am_aload_n dX2_put_53 rfl ?_
    refine am_getR (o' := o) dX2_put_54 fl_RX2_15 sh_2 rfl rfl hk_2 ?_
    refine am_iload_n dX2_put_57 rfl ?_
    refine am_lload_n dX2_put_58 rfl ?_
    refine am_l2i dX2_put_59 ?_
    refine am_i2s dX2_put_60 ?_
    refine am_i2l dX2_put_61 ?_
    obtain ⟨g5, h⟩ := am_grd h
    obtain ⟨M6, eM6, h⟩ := am_letE h
    refine am_lastore dX2_put_62 sh_303 hk_303 (am_inbE g5) ?_
    refine am_mem eM6 ?_
    refine am_goto 105 dX2_put_63 rfl ?_
    obtain rfl := Option.some.inj h
    exact am_return dX2_put_105 rfl hp
  replace h := am_ifF b4 h
  by_cases b7 : (M.1 2 o 0 0) = (2 : Int32)
  · replace h := am_ifT b7 h
    skip
    refine am_swIn 66 dX2_put_4 (by rw [b7]; decide) (by rw [b7]; decide) (by rw [b7]; rfl) rfl ?_
    refine am_aload_n dX2_put_66 rfl ?_
    refine am_getR (o' := o) dX2_put_67 fl_RX2_15 sh_2 rfl rfl hk_2 ?_
    refine am_iload_n dX2_put_70 rfl ?_
    refine am_lload_n dX2_put_71 rfl ?_
    refine am_l2i dX2_put_72 ?_
    refine am_i2l dX2_put_73 ?_
    obtain ⟨g8, h⟩ := am_grd h
    obtain ⟨M9, eM9, h⟩ := am_letE h
    refine am_lastore dX2_put_74 sh_303 hk_303 (am_inbE g8) ?_
    refine am_mem eM9 ?_
    refine am_goto 105 dX2_put_75 rfl ?_
    obtain rfl := Option.some.inj h
    exact am_return dX2_put_105 rfl hp
  replace h := am_ifF b7 h
  by_cases b10 : (M.1 2 o 0 0) = (3 : Int32)
  · replace h := am_ifT b10 h
    skip
    refine am_swIn 98 dX2_put_4 (by rw [b10]; decide) (by rw [b10]; decide) (by rw [b10]; rfl) rfl ?_
    refine am_aload_n dX2_put_98 rfl ?_
    refine am_getR (o' := o) dX2_put_99 fl_RX2_15 sh_2 rfl rfl hk_2 ?_
    refine am_iload_n dX2_put_102 rfl ?_
    refine am_lload_n dX2_put_103 rfl ?_
    obtain ⟨g11, h⟩ := am_grd h
    obtain ⟨M12, eM12, h⟩ := am_letE h
    refine am_lastore dX2_put_104 sh_303 hk_303 (am_inbE g11) ?_
    refine am_mem eM12 ?_
    obtain rfl := Option.some.inj h
    exact am_return dX2_put_105 rfl hp
  replace h := am_ifF b10 h
  by_cases b13 : (M.1 2 o 0 0) = (4 : Int32)
  · replace h := am_ifT b13 h
    skip
    refine am_swIn 78 dX2_put_4 (by rw [b13]; decide) (by rw [b13]; decide) (by rw [b13]; rfl) rfl ?_
    refine am_aload_n dX2_put_78 rfl ?_
    refine am_getR (o' := o) dX2_put_79 fl_RX2_15 sh_2 rfl rfl hk_2 ?_
    refine am_iload_n dX2_put_82 rfl ?_
    refine am_lload_n dX2_put_83 rfl ?_
    refine am_lconst dX2_put_84 lc_0 ?_
    refine am_lcmp dX2_put_85 ?_
    refine am_if_eq 93 dX2_put_86 rfl (fun b18 => ?_) (fun b18 => ?_)
    · replace h := am_ifT b18 h
      refine am_lconst dX2_put_93 lc_0 ?_
      obtain ⟨g14, h⟩ := am_grd h
      obtain ⟨M15, eM15, h⟩ := am_letE h
      refine am_lastore dX2_put_94 sh_303 hk_303 (am_inbE g14) ?_
      refine am_mem eM15 ?_
      refine am_goto 105 dX2_put_95 rfl ?_
      obtain rfl := Option.some.inj h
      exact am_return dX2_put_105 rfl hp
    · replace h := am_ifF b18 h
      refine am_lconst dX2_put_89 lc_1 ?_
      refine am_goto 94 dX2_put_90 rfl ?_
      obtain ⟨g16, h⟩ := am_grd h
      obtain ⟨M17, eM17, h⟩ := am_letE h
      refine am_lastore dX2_put_94 sh_303 hk_303 (am_inbE g16) ?_
      refine am_mem eM17 ?_
      refine am_goto 105 dX2_put_95 rfl ?_
      obtain rfl := Option.some.inj h
      exact am_return dX2_put_105 rfl hp
  replace h := am_ifF b13 h
  have nb1 : ¬ ((M.1 2 o 0 0)).toInt = 0 := am_neI b1
  have nb4 : ¬ ((M.1 2 o 0 0)).toInt = 1 := am_neI b4
  have nb7 : ¬ ((M.1 2 o 0 0)).toInt = 2 := am_neI b7
  have nb10 : ¬ ((M.1 2 o 0 0)).toInt = 3 := am_neI b10
  have nb13 : ¬ ((M.1 2 o 0 0)).toInt = 4 := am_neI b13
  refine am_swOut 98 dX2_put_4 (by omega) rfl ?_
  refine am_aload_n dX2_put_98 rfl ?_
  refine am_getR (o' := o) dX2_put_99 fl_RX2_15 sh_2 rfl rfl hk_2 ?_
  refine am_iload_n dX2_put_102 rfl ?_
  refine am_lload_n dX2_put_103 rfl ?_
  obtain ⟨g19, h⟩ := am_grd h
  obtain ⟨M20, eM20, h⟩ := am_letE h
  refine am_lastore dX2_put_104 sh_303 hk_303 (am_inbE g19) ?_
  refine am_mem eM20 ?_
  obtain rfl := Option.some.inj h
  exact am_return dX2_put_105 rfl hp
theorem c_X2_put {K : am_K} {d : Nat} {M : am_M} {o : Nat} {x1 : Int32} {x2 : Int64} {y : am_M} (h : f_X2_put M o x1 x2 = some y) : am_Met K d m_X2_put [.inr (.inr (2, o, 0)), .inl x1, .inr (.inl x2)] M (fun q N => q = none ∧ N = y) :=
  am_Met_of cb_X2_put (Nat.le_of_ble_eq_true rfl) (w_X2_put h ⟨rfl, rfl⟩)
def f_X2_slipAt (M : am_M) (o : Nat) (x1 : Int32) : Option (Int32) :=
  (f_X2_hasElement M o x1).bind (fun r2 => (if r2 = 0 then some (-1 : Int32) else if am_inb x1 40 = true then (if (lg_cmp (M.2 303 o 0 x1.toNatClampNeg) (0 : Int64)) = 0 then some (0 : Int32) else if am_inb x1 40 = true then (if (lg_cmp (M.2 303 o 0 x1.toNatClampNeg) (1 : Int64)) = 0 then some (1 : Int32) else some (-1 : Int32)) else none) else none))
set_option maxHeartbeats 4000000 in
theorem w_X2_slipAt {K : am_K} {d : Nat} {post : Option am_V → am_M → Prop} {M : am_M} {o : Nat} {x1 : Int32} {y : Int32} (h : f_X2_slipAt M o x1 = some y) (hp : post (some (.inl y)) M) : am_W K (d + 2) m_X2_slipAt 0 [(0, .inr (.inr (2, o, 0))), (1, .inl x1)] [] M post := by
  unfold f_X2_slipAt at h
  refine am_aload_n dX2_slipAt_0 rfl ?_
  refine am_iload_n dX2_slipAt_1 rfl ?_
  obtain ⟨r2, c1, h⟩ := am_bnd h
  refine am_callVi (as := [.inl x1]) dX2_slipAt_2 cv_RX2_35 cb_X2_hasElement sh_2 rfl hk_2 rfl rfl (Nat.le_of_ble_eq_true rfl) (c_X2_hasElement c1) ?_
  refine am_if_ne 10 dX2_slipAt_5 rfl (fun b7 => ?_) (fun b7 => ?_)
  · replace h := am_ifF b7 h
    refine am_aload_n dX2_slipAt_10 rfl ?_
    refine am_getR (o' := o) dX2_slipAt_11 fl_RX2_15 sh_2 rfl rfl hk_2 ?_
    refine am_iload_n dX2_slipAt_14 rfl ?_
    obtain ⟨g3, h⟩ := am_grd h
    refine am_laload dX2_slipAt_15 sh_303 hk_303 (am_inbE g3) ?_
    refine am_lconst dX2_slipAt_16 lc_0 ?_
    refine am_lcmp dX2_slipAt_17 ?_
    refine am_if_ne 25 dX2_slipAt_18 rfl (fun b6 => ?_) (fun b6 => ?_)
    · replace h := am_ifF b6 h
      refine am_aload_n dX2_slipAt_25 rfl ?_
      refine am_getR (o' := o) dX2_slipAt_26 fl_RX2_15 sh_2 rfl rfl hk_2 ?_
      refine am_iload_n dX2_slipAt_29 rfl ?_
      obtain ⟨g4, h⟩ := am_grd h
      refine am_laload dX2_slipAt_30 sh_303 hk_303 (am_inbE g4) ?_
      refine am_lconst dX2_slipAt_31 lc_1 ?_
      refine am_lcmp dX2_slipAt_32 ?_
      refine am_if_ne 40 dX2_slipAt_33 rfl (fun b5 => ?_) (fun b5 => ?_)
      · replace h := am_ifF b5 h
        refine am_iconst dX2_slipAt_40 ic_m1 ?_
        obtain rfl := Option.some.inj h
        exact am_ireturn dX2_slipAt_41 rfl rfl hp
      · replace h := am_ifT b5 h
        refine am_iconst dX2_slipAt_36 ic_1 ?_
        refine am_goto 41 dX2_slipAt_37 rfl ?_
        obtain rfl := Option.some.inj h
        exact am_ireturn dX2_slipAt_41 rfl rfl hp
    · replace h := am_ifT b6 h
      refine am_iconst dX2_slipAt_21 ic_0 ?_
      refine am_goto 41 dX2_slipAt_22 rfl ?_
      obtain rfl := Option.some.inj h
      exact am_ireturn dX2_slipAt_41 rfl rfl hp
  · replace h := am_ifT b7 h
    refine am_iconst dX2_slipAt_8 ic_m1 ?_
    obtain rfl := Option.some.inj h
    exact am_ireturn dX2_slipAt_9 rfl rfl hp
theorem c_X2_slipAt {K : am_K} {d : Nat} {M : am_M} {o : Nat} {x1 : Int32} {y : Int32} (h : f_X2_slipAt M o x1 = some y) : am_Met K (d + 2) m_X2_slipAt [.inr (.inr (2, o, 0)), .inl x1] M (fun q N => q = some (.inl y) ∧ N = M) :=
  am_Met_of cb_X2_slipAt (Nat.le_of_ble_eq_true rfl) (w_X2_slipAt h ⟨rfl, rfl⟩)
def f_X3_append (M : am_M) (x1 : Int32) : Option (Int32 × am_M) :=
  (if (250 : Int32) ≤ (M.1 3 0 0 0) then some ((M.1 3 0 0 0), M) else if am_inb (M.1 3 0 0 0) 250 = true then am_let (am_si M 402 0 0 (M.1 3 0 0 0).toNatClampNeg x1) (fun M2 => am_let (am_si M2 3 0 0 0 ((M2.1 3 0 0 0) + (1 : Int32))) (fun M3 => some ((M3.1 3 0 0 0), M3))) else none)
set_option maxHeartbeats 4000000 in
theorem w_X3_append {K : am_K} {d : Nat} {post : Option am_V → am_M → Prop} {M : am_M} {x1 : Int32} {y : Int32 × am_M} (h : f_X3_append M x1 = some y) (hp : post (some (.inl y.1)) y.2) : am_W K d m_X3_append 0 [(0, .inr (.inr (3, 0, 0))), (1, .inl x1)] [] M post := by
  unfold f_X3_append at h
  refine am_aload_n dX3_append_0 rfl ?_
  refine am_getI dX3_append_1 fl_RX3_15 sh_3 rfl hk_3 ?_
  refine am_sipush dX3_append_4 sp_250 ?_
  refine am_icmp_ge 30 dX3_append_7 rfl (fun b4 => ?_) (fun b4 => ?_)
  · replace h := am_ifT b4 h
    refine am_aload_n dX3_append_30 rfl ?_
    refine am_getI dX3_append_31 fl_RX3_15 sh_3 rfl hk_3 ?_
    obtain rfl := Option.some.inj h
    exact am_ireturn dX3_append_34 rfl rfl hp
  · replace h := am_ifF b4 h
    refine am_aload_n dX3_append_10 rfl ?_
    refine am_getR (o' := 0) dX3_append_11 fl_RX3_9 sh_3 rfl rfl hk_3 ?_
    refine am_aload_n dX3_append_14 rfl ?_
    refine am_getI dX3_append_15 fl_RX3_15 sh_3 rfl hk_3 ?_
    refine am_iload_n dX3_append_18 rfl ?_
    obtain ⟨g1, h⟩ := am_grd h
    obtain ⟨M2, eM2, h⟩ := am_letE h
    refine am_iastore dX3_append_19 sh_402 hk_402 (am_inbE g1) ?_
    refine am_mem eM2 ?_
    refine am_aload_n dX3_append_20 rfl ?_
    refine am_dup dX3_append_21 rfl ?_
    refine am_getI dX3_append_22 fl_RX3_15 sh_3 rfl hk_3 ?_
    refine am_iconst dX3_append_25 ic_1 ?_
    refine am_iadd dX3_append_26 ?_
    obtain ⟨M3, eM3, h⟩ := am_letE h
    refine am_putI dX3_append_27 fl_RX3_15 fp_X3_0 sh_3 rfl rfl rfl hk_3 ?_
    refine am_mem eM3 ?_
    refine am_aload_n dX3_append_30 rfl ?_
    refine am_getI dX3_append_31 fl_RX3_15 sh_3 rfl hk_3 ?_
    obtain rfl := Option.some.inj h
    exact am_ireturn dX3_append_34 rfl rfl hp
theorem c_X3_append {K : am_K} {d : Nat} {M : am_M} {x1 : Int32} {y : Int32 × am_M} (h : f_X3_append M x1 = some y) : am_Met K d m_X3_append [.inr (.inr (3, 0, 0)), .inl x1] M (fun q N => q = some (.inl y.1) ∧ N = y.2) :=
  am_Met_of cb_X3_append (Nat.le_of_ble_eq_true rfl) (w_X3_append h ⟨rfl, rfl⟩)
def f_X3_tokenOf (M : am_M) (x0 : Int32) : Option (Int32) :=
  (if x0 < (97 : Int32) then (if x0 < (48 : Int32) then (if x0 = (59 : Int32) then some (3 : Int32) else some (4 : Int32)) else (if (57 : Int32) < x0 then (if x0 = (59 : Int32) then some (3 : Int32) else some (4 : Int32)) else some (2 : Int32))) else (if (122 : Int32) < x0 then (if x0 < (48 : Int32) then (if x0 = (59 : Int32) then some (3 : Int32) else some (4 : Int32)) else (if (57 : Int32) < x0 then (if x0 = (59 : Int32) then some (3 : Int32) else some (4 : Int32)) else some (2 : Int32))) else some (1 : Int32)))
set_option maxHeartbeats 4000000 in
theorem w_X3_tokenOf {K : am_K} {d : Nat} {post : Option am_V → am_M → Prop} {M : am_M} {x0 : Int32} {y : Int32} (h : f_X3_tokenOf M x0 = some y) (hp : post (some (.inl y)) M) : am_W K d m_X3_tokenOf 0 [(0, .inl x0)] [] M post := by
  unfold f_X3_tokenOf at h
  refine am_iload_n dX3_tokenOf_0 rfl ?_
  refine am_bipush dX3_tokenOf_1 bp_97 ?_
  refine am_icmp_lt 14 dX3_tokenOf_3 rfl (fun b10 => ?_) (fun b10 => ?_)
  · replace h := am_ifT b10 h
    refine am_iload_n dX3_tokenOf_14 rfl ?_
    refine am_bipush dX3_tokenOf_15 bp_48 ?_
    refine am_icmp_lt 28 dX3_tokenOf_17 rfl (fun b4 => ?_) (fun b4 => ?_)
    · replace h := am_ifT b4 h
      refine am_iload_n dX3_tokenOf_28 rfl ?_
      refine am_bipush dX3_tokenOf_29 bp_59 ?_
      refine am_icmp_ne 38 dX3_tokenOf_31 rfl (fun b1 => ?_) (fun b1 => ?_)
      · replace h := am_ifF b1 h
        refine am_iconst dX3_tokenOf_38 ic_4 ?_
        obtain rfl := Option.some.inj h
        exact am_ireturn dX3_tokenOf_39 rfl rfl hp
      · replace h := am_ifT b1 h
        refine am_iconst dX3_tokenOf_34 ic_3 ?_
        refine am_goto 39 dX3_tokenOf_35 rfl ?_
        obtain rfl := Option.some.inj h
        exact am_ireturn dX3_tokenOf_39 rfl rfl hp
    · replace h := am_ifF b4 h
      refine am_iload_n dX3_tokenOf_20 rfl ?_
      refine am_bipush dX3_tokenOf_21 bp_57 ?_
      refine am_icmp_gt 28 dX3_tokenOf_23 rfl (fun b3 => ?_) (fun b3 => ?_)
      · replace h := am_ifT b3 h
        refine am_iload_n dX3_tokenOf_28 rfl ?_
        refine am_bipush dX3_tokenOf_29 bp_59 ?_
        refine am_icmp_ne 38 dX3_tokenOf_31 rfl (fun b2 => ?_) (fun b2 => ?_)
        · replace h := am_ifF b2 h
          refine am_iconst dX3_tokenOf_38 ic_4 ?_
          obtain rfl := Option.some.inj h
          exact am_ireturn dX3_tokenOf_39 rfl rfl hp
        · replace h := am_ifT b2 h
          refine am_iconst dX3_tokenOf_34 ic_3 ?_
          refine am_goto 39 dX3_tokenOf_35 rfl ?_
          obtain rfl := Option.some.inj h
          exact am_ireturn dX3_tokenOf_39 rfl rfl hp
      · replace h := am_ifF b3 h
        refine am_iconst dX3_tokenOf_26 ic_2 ?_
        obtain rfl := Option.some.inj h
        exact am_ireturn dX3_tokenOf_27 rfl rfl hp
  · replace h := am_ifF b10 h
    refine am_iload_n dX3_tokenOf_6 rfl ?_
    refine am_bipush dX3_tokenOf_7 bp_122 ?_
    refine am_icmp_gt 14 dX3_tokenOf_9 rfl (fun b9 => ?_) (fun b9 => ?_)
    · replace h := am_ifT b9 h
      refine am_iload_n dX3_tokenOf_14 rfl ?_
      refine am_bipush dX3_tokenOf_15 bp_48 ?_
      refine am_icmp_lt 28 dX3_tokenOf_17 rfl (fun b8 => ?_) (fun b8 => ?_)
      · replace h := am_ifT b8 h
        refine am_iload_n dX3_tokenOf_28 rfl ?_
        refine am_bipush dX3_tokenOf_29 bp_59 ?_
        refine am_icmp_ne 38 dX3_tokenOf_31 rfl (fun b5 => ?_) (fun b5 => ?_)
        · replace h := am_ifF b5 h
          refine am_iconst dX3_tokenOf_38 ic_4 ?_
          obtain rfl := Option.some.inj h
          exact am_ireturn dX3_tokenOf_39 rfl rfl hp
        · replace h := am_ifT b5 h
          refine am_iconst dX3_tokenOf_34 ic_3 ?_
          refine am_goto 39 dX3_tokenOf_35 rfl ?_
          obtain rfl := Option.some.inj h
          exact am_ireturn dX3_tokenOf_39 rfl rfl hp
      · replace h := am_ifF b8 h
        refine am_iload_n dX3_tokenOf_20 rfl ?_
        refine am_bipush dX3_tokenOf_21 bp_57 ?_
        refine am_icmp_gt 28 dX3_tokenOf_23 rfl (fun b7 => ?_) (fun b7 => ?_)
        · replace h := am_ifT b7 h
          refine am_iload_n dX3_tokenOf_28 rfl ?_
          refine am_bipush dX3_tokenOf_29 bp_59 ?_
          refine am_icmp_ne 38 dX3_tokenOf_31 rfl (fun b6 => ?_) (fun b6 => ?_)
          · replace h := am_ifF b6 h
            refine am_iconst dX3_tokenOf_38 ic_4 ?_
            obtain rfl := Option.some.inj h
            exact am_ireturn dX3_tokenOf_39 rfl rfl hp
          · replace h := am_ifT b6 h
            refine am_iconst dX3_tokenOf_34 ic_3 ?_
            refine am_goto 39 dX3_tokenOf_35 rfl ?_
            obtain rfl := Option.some.inj h
            exact am_ireturn dX3_tokenOf_39 rfl rfl hp
        · replace h := am_ifF b7 h
          refine am_iconst dX3_tokenOf_26 ic_2 ?_
          obtain rfl := Option.some.inj h
          exact am_ireturn dX3_tokenOf_27 rfl rfl hp
    · replace h := am_ifF b9 h
      refine am_iconst dX3_tokenOf_12 ic_1 ?_
      obtain rfl := Option.some.inj h
      exact am_ireturn dX3_tokenOf_13 rfl rfl hp
theorem c_X3_tokenOf {K : am_K} {d : Nat} {M : am_M} {x0 : Int32} {y : Int32} (h : f_X3_tokenOf M x0 = some y) : am_Met K d m_X3_tokenOf [.inl x0] M (fun q N => q = some (.inl y) ∧ N = M) :=
  am_Met_of cb_X3_tokenOf (Nat.le_of_ble_eq_true rfl) (w_X3_tokenOf h ⟨rfl, rfl⟩)
def l_X3_nextToken_8  : Nat → am_M → Option (am_M)
  | 0, _ => none
  | n + 1, M => (if (M.1 3 0 0 0) ≤ (M.1 3 0 0 1) then some M else if am_inb (M.1 3 0 0 1) 250 = true then (if (M.1 402 0 0 (M.1 3 0 0 1).toNatClampNeg) = (32 : Int32) then am_let (am_si M 3 0 0 1 ((M.1 3 0 0 1) + (1 : Int32))) (fun M3 => l_X3_nextToken_8  n M3) else some M) else none)
set_option maxHeartbeats 4000000 in
theorem wl_X3_nextToken_8 {K : am_K} {d : Nat} {post : Option am_V → am_M → Prop}  : ∀ (n : Nat) (M : am_M) (x : am_M), l_X3_nextToken_8  n M = some x → am_W K (d + 1) m_X3_nextToken 46 [(0, .inr (.inr (3, 0, 0)))] [] x post → am_W K (d + 1) m_X3_nextToken 8 [(0, .inr (.inr (3, 0, 0)))] [] M post := by
  intro n
  induction n with
  | zero => intro M x h KX; cases h
  | succ n ih =>
    intro M x h KX
    rw [l_X3_nextToken_8] at h
    refine am_aload_n dX3_nextToken_8 rfl ?_
    refine am_getI dX3_nextToken_9 fl_RX3_85 sh_3 rfl hk_3 ?_
    refine am_aload_n dX3_nextToken_12 rfl ?_
    refine am_getI dX3_nextToken_13 fl_RX3_15 sh_3 rfl hk_3 ?_
    refine am_icmp_ge 46 dX3_nextToken_16 rfl (fun b5 => ?_) (fun b5 => ?_)
    · replace h := am_ifT b5 h
      obtain rfl := Option.some.inj h
      exact am_drop [0] rfl KX
    · replace h := am_ifF b5 h
      refine am_aload_n dX3_nextToken_19 rfl ?_
      refine am_getR (o' := 0) dX3_nextToken_20 fl_RX3_9 sh_3 rfl rfl hk_3 ?_
      refine am_aload_n dX3_nextToken_23 rfl ?_
      refine am_getI dX3_nextToken_24 fl_RX3_85 sh_3 rfl hk_3 ?_
      obtain ⟨g2, h⟩ := am_grd h
      refine am_iaload dX3_nextToken_27 sh_402 hk_402 (am_inbE g2) ?_
      refine am_bipush dX3_nextToken_28 bp_32 ?_
      refine am_icmp_ne 46 dX3_nextToken_30 rfl (fun b4 => ?_) (fun b4 => ?_)
      · replace h := am_ifF b4 h
        obtain rfl := Option.some.inj h
        exact am_drop [0] rfl KX
      · replace h := am_ifT b4 h
        refine am_aload_n dX3_nextToken_33 rfl ?_
        refine am_dup dX3_nextToken_34 rfl ?_
        refine am_getI dX3_nextToken_35 fl_RX3_85 sh_3 rfl hk_3 ?_
        refine am_iconst dX3_nextToken_38 ic_1 ?_
        refine am_iadd dX3_nextToken_39 ?_
        obtain ⟨M3, eM3, h⟩ := am_letE h
        refine am_putI dX3_nextToken_40 fl_RX3_85 fp_X3_1 sh_3 rfl rfl rfl hk_3 ?_
        refine am_mem eM3 ?_
        refine am_goto 8 dX3_nextToken_43 rfl ?_
        exact am_drop [0] rfl (ih _ _ h KX)
def l_X3_nextToken_94  : Nat → am_M → Option (am_M)
  | 0, _ => none
  | n + 1, M => (if (M.1 3 0 0 4) = (1 : Int32) then (if (M.1 3 0 0 0) ≤ (M.1 3 0 0 3) then some M else if am_inb (M.1 3 0 0 3) 250 = true then (f_X3_tokenOf M (M.1 402 0 0 (M.1 3 0 0 3).toNatClampNeg)).bind (fun r20 => (if r20 = (M.1 3 0 0 4) then am_let (am_si M 3 0 0 3 ((M.1 3 0 0 3) + (1 : Int32))) (fun M21 => l_X3_nextToken_94  n M21) else some M)) else none) else (if (M.1 3 0 0 4) = (2 : Int32) then (if (M.1 3 0 0 0) ≤ (M.1 3 0 0 3) then some M else if am_inb (M.1 3 0 0 3) 250 = true then (f_X3_tokenOf M (M.1 402 0 0 (M.1 3 0 0 3).toNatClampNeg)).bind (fun r26 => (if r26 = (M.1 3 0 0 4) then am_let (am_si M 3 0 0 3 ((M.1 3 0 0 3) + (1 : Int32))) (fun M27 => l_X3_nextToken_94  n M27) else some M)) else none) else some M))
set_option maxHeartbeats 4000000 in
theorem wl_X3_nextToken_94 {K : am_K} {d : Nat} {post : Option am_V → am_M → Prop}  : ∀ (n : Nat) (M : am_M) (x : am_M), l_X3_nextToken_94  n M = some x → am_W K (d + 1) m_X3_nextToken 153 [] [] x post → am_W K (d + 1) m_X3_nextToken 94 [(0, .inr (.inr (3, 0, 0)))] [] M post := by
  intro n
  induction n with
  | zero => intro M x h KX; cases h
  | succ n ih =>
    intro M x h KX
    rw [l_X3_nextToken_94] at h
    refine am_aload_n dX3_nextToken_94 rfl ?_
    refine am_getI dX3_nextToken_95 fl_RX3_29 sh_3 rfl hk_3 ?_
    refine am_iconst dX3_nextToken_98 ic_1 ?_
    refine am_icmp_eq 110 dX3_nextToken_99 rfl (fun b31 => ?_) (fun b31 => ?_)
    · replace h := am_ifT b31 h
      refine am_aload_n dX3_nextToken_110 rfl ?_
      refine am_getI dX3_nextToken_111 fl_RX3_19 sh_3 rfl hk_3 ?_
      refine am_aload_n dX3_nextToken_114 rfl ?_
      refine am_getI dX3_nextToken_115 fl_RX3_15 sh_3 rfl hk_3 ?_
      refine am_icmp_ge 153 dX3_nextToken_118 rfl (fun b23 => ?_) (fun b23 => ?_)
      · replace h := am_ifT b23 h
        obtain rfl := Option.some.inj h
        exact am_drop [] rfl KX
      · replace h := am_ifF b23 h
        refine am_aload_n dX3_nextToken_121 rfl ?_
        refine am_getR (o' := 0) dX3_nextToken_122 fl_RX3_9 sh_3 rfl rfl hk_3 ?_
        refine am_aload_n dX3_nextToken_125 rfl ?_
        refine am_getI dX3_nextToken_126 fl_RX3_19 sh_3 rfl hk_3 ?_
        obtain ⟨g18, h⟩ := am_grd h
        refine am_iaload dX3_nextToken_129 sh_402 hk_402 (am_inbE g18) ?_
        obtain ⟨r20, c19, h⟩ := am_bnd h
        refine am_callSi (as := [.inl (M.1 402 0 0 (M.1 3 0 0 3).toNatClampNeg)]) dX3_nextToken_130 cs_RX3_106 cb_X3_tokenOf rfl rfl (Nat.le_of_ble_eq_true rfl) (c_X3_tokenOf c19) ?_
        refine am_aload_n dX3_nextToken_133 rfl ?_
        refine am_getI dX3_nextToken_134 fl_RX3_29 sh_3 rfl hk_3 ?_
        refine am_icmp_ne 153 dX3_nextToken_137 rfl (fun b22 => ?_) (fun b22 => ?_)
        · replace h := am_ifF b22 h
          obtain rfl := Option.some.inj h
          exact am_drop [] rfl KX
        · replace h := am_ifT b22 h
          refine am_aload_n dX3_nextToken_140 rfl ?_
          refine am_dup dX3_nextToken_141 rfl ?_
          refine am_getI dX3_nextToken_142 fl_RX3_19 sh_3 rfl hk_3 ?_
          refine am_iconst dX3_nextToken_145 ic_1 ?_
          refine am_iadd dX3_nextToken_146 ?_
          obtain ⟨M21, eM21, h⟩ := am_letE h
          refine am_putI dX3_nextToken_147 fl_RX3_19 fp_X3_3 sh_3 rfl rfl rfl hk_3 ?_
          refine am_mem eM21 ?_
          refine am_goto 94 dX3_nextToken_150 rfl ?_
          exact am_drop [0] rfl (ih _ _ h KX)
    · replace h := am_ifF b31 h
      refine am_aload_n dX3_nextToken_102 rfl ?_
      refine am_getI dX3_nextToken_103 fl_RX3_29 sh_3 rfl hk_3 ?_
      refine am_iconst dX3_nextToken_106 ic_2 ?_
      refine am_icmp_ne 153 dX3_nextToken_107 rfl (fun b30 => ?_) (fun b30 => ?_)
      · replace h := am_ifF b30 h
        obtain rfl := Option.some.inj h
        exact am_drop [] rfl KX
      · replace h := am_ifT b30 h
        refine am_aload_n dX3_nextToken_110 rfl ?_
        refine am_getI dX3_nextToken_111 fl_RX3_19 sh_3 rfl hk_3 ?_
        refine am_aload_n dX3_nextToken_114 rfl ?_
        refine am_getI dX3_nextToken_115 fl_RX3_15 sh_3 rfl hk_3 ?_
        refine am_icmp_ge 153 dX3_nextToken_118 rfl (fun b29 => ?_) (fun b29 => ?_)
        · replace h := am_ifT b29 h
          obtain rfl := Option.some.inj h
          exact am_drop [] rfl KX
        · replace h := am_ifF b29 h
          refine am_aload_n dX3_nextToken_121 rfl ?_
          refine am_getR (o' := 0) dX3_nextToken_122 fl_RX3_9 sh_3 rfl rfl hk_3 ?_
          refine am_aload_n dX3_nextToken_125 rfl ?_
          refine am_getI dX3_nextToken_126 fl_RX3_19 sh_3 rfl hk_3 ?_
          obtain ⟨g24, h⟩ := am_grd h
          refine am_iaload dX3_nextToken_129 sh_402 hk_402 (am_inbE g24) ?_
          obtain ⟨r26, c25, h⟩ := am_bnd h
          refine am_callSi (as := [.inl (M.1 402 0 0 (M.1 3 0 0 3).toNatClampNeg)]) dX3_nextToken_130 cs_RX3_106 cb_X3_tokenOf rfl rfl (Nat.le_of_ble_eq_true rfl) (c_X3_tokenOf c25) ?_
          refine am_aload_n dX3_nextToken_133 rfl ?_
          refine am_getI dX3_nextToken_134 fl_RX3_29 sh_3 rfl hk_3 ?_
          refine am_icmp_ne 153 dX3_nextToken_137 rfl (fun b28 => ?_) (fun b28 => ?_)
          · replace h := am_ifF b28 h
            obtain rfl := Option.some.inj h
            exact am_drop [] rfl KX
          · replace h := am_ifT b28 h
            refine am_aload_n dX3_nextToken_140 rfl ?_
            refine am_dup dX3_nextToken_141 rfl ?_
            refine am_getI dX3_nextToken_142 fl_RX3_19 sh_3 rfl hk_3 ?_
            refine am_iconst dX3_nextToken_145 ic_1 ?_
            refine am_iadd dX3_nextToken_146 ?_
            obtain ⟨M27, eM27, h⟩ := am_letE h
            refine am_putI dX3_nextToken_147 fl_RX3_19 fp_X3_3 sh_3 rfl rfl rfl hk_3 ?_
            refine am_mem eM27 ?_
            refine am_goto 94 dX3_nextToken_150 rfl ?_
            exact am_drop [0] rfl (ih _ _ h KX)
def f_X3_nextToken (M : am_M)  : Option (am_M) :=
  am_let (am_si M 3 0 0 1 (M.1 3 0 0 3)) (fun M1 => (l_X3_nextToken_8  1000 M1).bind (fun z6 => ((if (z6.1 3 0 0 0) ≤ (z6.1 3 0 0 1) then some (0 : Int32) else if am_inb (z6.1 3 0 0 1) 250 = true then (f_X3_tokenOf z6 (z6.1 402 0 0 (z6.1 3 0 0 1).toNatClampNeg)).bind (fun r14 => some r14) else none) : Option (Int32)).bind (fun z9 => am_let (am_si z6 3 0 0 4 z9) (fun M16 => am_let (am_si M16 3 0 0 3 (if ((M16.1 3 0 0 1) + (1 : Int32)) < (M16.1 3 0 0 0) then ((M16.1 3 0 0 1) + (1 : Int32)) else (M16.1 3 0 0 0))) (fun M17 => (l_X3_nextToken_94  1000 M17).bind (fun z32 => some z32))))))
set_option maxHeartbeats 4000000 in
theorem w_X3_nextToken {K : am_K} {d : Nat} {post : Option am_V → am_M → Prop} {M : am_M}  {y : am_M} (h : f_X3_nextToken M  = some y) (hp : post none y) : am_W K (d + 1) m_X3_nextToken 0 [(0, .inr (.inr (3, 0, 0)))] [] M post := by
  unfold f_X3_nextToken at h
  refine am_aload_n dX3_nextToken_0 rfl ?_
  refine am_aload_n dX3_nextToken_1 rfl ?_
  refine am_getI dX3_nextToken_2 fl_RX3_19 sh_3 rfl hk_3 ?_
  obtain ⟨M1, eM1, h⟩ := am_letE h
  refine am_putI dX3_nextToken_5 fl_RX3_85 fp_X3_1 sh_3 rfl rfl rfl hk_3 ?_
  refine am_mem eM1 ?_
  obtain ⟨z6, h7, h⟩ := am_bnd h
  have KK8 : am_W K (d + 1) m_X3_nextToken 46 [(0, .inr (.inr (3, 0, 0)))] [] z6 post := by
    refine am_aload_n dX3_nextToken_46 rfl ?_
    refine am_aload_n dX3_nextToken_47 rfl ?_
    refine am_getI dX3_nextToken_48 fl_RX3_85 sh_3 rfl hk_3 ?_
    refine am_aload_n dX3_nextToken_51 rfl ?_
    refine am_getI dX3_nextToken_52 fl_RX3_15 sh_3 rfl hk_3 ?_
    obtain ⟨z9, h10, h⟩ := am_bnd h
    have KK11 : am_W K (d + 1) m_X3_nextToken 74 [(0, .inr (.inr (3, 0, 0)))] [.inl z9, .inr (.inr (3, 0, 0))] z6 post := by
      obtain ⟨M16, eM16, h⟩ := am_letE h
      refine am_putI dX3_nextToken_74 fl_RX3_29 fp_X3_4 sh_3 rfl rfl rfl hk_3 ?_
      refine am_mem eM16 ?_
      refine am_aload_n dX3_nextToken_77 rfl ?_
      refine am_aload_n dX3_nextToken_78 rfl ?_
      refine am_getI dX3_nextToken_79 fl_RX3_15 sh_3 rfl hk_3 ?_
      refine am_aload_n dX3_nextToken_82 rfl ?_
      refine am_getI dX3_nextToken_83 fl_RX3_85 sh_3 rfl hk_3 ?_
      refine am_iconst dX3_nextToken_86 ic_1 ?_
      refine am_iadd dX3_nextToken_87 ?_
      refine am_mmin dX3_nextToken_88 cm_RX3_110 (Nat.le_of_ble_eq_true rfl) ?_
      obtain ⟨M17, eM17, h⟩ := am_letE h
      refine am_putI dX3_nextToken_91 fl_RX3_19 fp_X3_3 sh_3 rfl rfl rfl hk_3 ?_
      refine am_mem eM17 ?_
      obtain ⟨z32, h33, h⟩ := am_bnd h
      have KK34 : am_W K (d + 1) m_X3_nextToken 153 [] [] z32 post := by
        obtain rfl := Option.some.inj h
        exact am_return dX3_nextToken_153 rfl hp
      exact am_drop [0] rfl (wl_X3_nextToken_94 _ _ _ h33 KK34)
    clear h
    refine am_icmp_ge 73 dX3_nextToken_55 rfl (fun b15 => ?_) (fun b15 => ?_)
    · replace h10 := am_ifT b15 h10
      refine am_iconst dX3_nextToken_73 ic_0 ?_
      obtain rfl := Option.some.inj h10
      exact am_drop [0] rfl KK11
    · replace h10 := am_ifF b15 h10
      refine am_aload_n dX3_nextToken_58 rfl ?_
      refine am_getR (o' := 0) dX3_nextToken_59 fl_RX3_9 sh_3 rfl rfl hk_3 ?_
      refine am_aload_n dX3_nextToken_62 rfl ?_
      refine am_getI dX3_nextToken_63 fl_RX3_85 sh_3 rfl hk_3 ?_
      obtain ⟨g12, h10⟩ := am_grd h10
      refine am_iaload dX3_nextToken_66 sh_402 hk_402 (am_inbE g12) ?_
      obtain ⟨r14, c13, h10⟩ := am_bnd h10
      refine am_callSi (as := [.inl (z6.1 402 0 0 (z6.1 3 0 0 1).toNatClampNeg)]) dX3_nextToken_67 cs_RX3_106 cb_X3_tokenOf rfl rfl (Nat.le_of_ble_eq_true rfl) (c_X3_tokenOf c13) ?_
      refine am_goto 74 dX3_nextToken_70 rfl ?_
      obtain rfl := Option.some.inj h10
      exact am_drop [0] rfl KK11
  exact am_drop [0] rfl (wl_X3_nextToken_8 _ _ _ h7 KK8)
theorem c_X3_nextToken {K : am_K} {d : Nat} {M : am_M}  {y : am_M} (h : f_X3_nextToken M  = some y) : am_Met K (d + 1) m_X3_nextToken [.inr (.inr (3, 0, 0))] M (fun q N => q = none ∧ N = y) :=
  am_Met_of cb_X3_nextToken (Nat.le_of_ble_eq_true rfl) (w_X3_nextToken h ⟨rfl, rfl⟩)
def l_X3_isNumberNext_37 (a1 : Int32) : Nat → Int32 → am_M → Option (am_M)
  | 0, _, _ => none
  | n + 1, a2, M => (if (M.1 3 0 0 3) ≤ a2 then some M else if am_inb a2 250 = true then am_let (am_si M 3 0 0 5 ((((M.1 3 0 0 5) * (10 : Int32)) + (M.1 402 0 0 a2.toNatClampNeg)) - (48 : Int32))) (fun M6 => am_let (a2 + (1 : Int32)) (fun v7 => l_X3_isNumberNext_37 a1 n v7 M6)) else none)
set_option maxHeartbeats 4000000 in
theorem wl_X3_isNumberNext_37 {K : am_K} {d : Nat} {post : Option am_V → am_M → Prop} {a1 : Int32} : ∀ (n : Nat) (a2 : Int32) (M : am_M) (x : am_M), l_X3_isNumberNext_37 a1 n a2 M = some x → am_W K (d + 2) m_X3_isNumberNext 72 [(0, .inr (.inr (3, 0, 0))), (1, .inl a1)] [] x post → am_W K (d + 2) m_X3_isNumberNext 37 [(0, .inr (.inr (3, 0, 0))), (1, .inl a1), (2, .inl a2)] [] M post := by
  intro n
  induction n with
  | zero => intro a2 M x h KX; cases h
  | succ n ih =>
    intro a2 M x h KX
    rw [l_X3_isNumberNext_37] at h
    refine am_iload_n dX3_isNumberNext_37 rfl ?_
    refine am_aload_n dX3_isNumberNext_38 rfl ?_
    refine am_getI dX3_isNumberNext_39 fl_RX3_19 sh_3 rfl hk_3 ?_
    refine am_icmp_ge 72 dX3_isNumberNext_42 rfl (fun b8 => ?_) (fun b8 => ?_)
    · replace h := am_ifT b8 h
      obtain rfl := Option.some.inj h
      exact am_drop [0, 1] rfl KX
    · replace h := am_ifF b8 h
      refine am_aload_n dX3_isNumberNext_45 rfl ?_
      refine am_aload_n dX3_isNumberNext_46 rfl ?_
      refine am_getI dX3_isNumberNext_47 fl_RX3_68 sh_3 rfl hk_3 ?_
      refine am_bipush dX3_isNumberNext_50 bp_10 ?_
      refine am_imul dX3_isNumberNext_52 ?_
      refine am_aload_n dX3_isNumberNext_53 rfl ?_
      refine am_getR (o' := 0) dX3_isNumberNext_54 fl_RX3_9 sh_3 rfl rfl hk_3 ?_
      refine am_iload_n dX3_isNumberNext_57 rfl ?_
      obtain ⟨g5, h⟩ := am_grd h
      refine am_iaload dX3_isNumberNext_58 sh_402 hk_402 (am_inbE g5) ?_
      refine am_iadd dX3_isNumberNext_59 ?_
      refine am_bipush dX3_isNumberNext_60 bp_48 ?_
      refine am_isub dX3_isNumberNext_62 ?_
      obtain ⟨M6, eM6, h⟩ := am_letE h
      refine am_putI dX3_isNumberNext_63 fl_RX3_68 fp_X3_5 sh_3 rfl rfl rfl hk_3 ?_
      refine am_mem eM6 ?_
      obtain ⟨v7, ev7, h⟩ := am_letE h
      refine am_iinc (ls' := [(0, .inr (.inr (3, 0, 0))), (1, .inl a1), (2, .inl v7)]) dX3_isNumberNext_66 rfl ((congrArg (fun z => a2 + z) ic_1).trans ev7.symm) (Nat.le_of_ble_eq_true rfl) rfl ?_
      refine am_goto 37 dX3_isNumberNext_69 rfl ?_
      exact am_drop [0, 1, 2] rfl (ih _ _ _ h KX)
def f_X3_isNumberNext (M : am_M) (x1 : Int32) : Option (Int32 × am_M) :=
  (f_X3_nextToken M).bind (fun r2 => (if (r2.1 3 0 0 4) = (2 : Int32) then (if ((r2.1 3 0 0 3) - (r2.1 3 0 0 1)) ≤ (2 : Int32) then am_let (am_si r2 3 0 0 5 (0 : Int32)) (fun M3 => am_let (M3.1 3 0 0 1) (fun v4 => (l_X3_isNumberNext_37 x1 1000 v4 M3).bind (fun z9 => (if x1 < (z9.1 3 0 0 5) then some ((0 : Int32), z9) else some ((1 : Int32), z9))))) else some ((0 : Int32), r2)) else some ((0 : Int32), r2)))
set_option maxHeartbeats 4000000 in
theorem w_X3_isNumberNext {K : am_K} {d : Nat} {post : Option am_V → am_M → Prop} {M : am_M} {x1 : Int32} {y : Int32 × am_M} (h : f_X3_isNumberNext M x1 = some y) (hp : post (some (.inl y.1)) y.2) : am_W K (d + 2) m_X3_isNumberNext 0 [(0, .inr (.inr (3, 0, 0))), (1, .inl x1)] [] M post := by
  unfold f_X3_isNumberNext at h
  refine am_aload_n dX3_isNumberNext_0 rfl ?_
  obtain ⟨r2, c1, h⟩ := am_bnd h
  refine am_callVv (as := []) dX3_isNumberNext_1 cv_RX3_22 cb_X3_nextToken sh_3 rfl hk_3 rfl rfl (Nat.le_of_ble_eq_true rfl) (c_X3_nextToken c1) ?_
  refine am_aload_n dX3_isNumberNext_4 rfl ?_
  refine am_getI dX3_isNumberNext_5 fl_RX3_29 sh_3 rfl hk_3 ?_
  refine am_iconst dX3_isNumberNext_8 ic_2 ?_
  refine am_icmp_ne 25 dX3_isNumberNext_9 rfl (fun b14 => ?_) (fun b14 => ?_)
  · replace h := am_ifF b14 h
    refine am_iconst dX3_isNumberNext_25 ic_0 ?_
    obtain rfl := Option.some.inj h
    exact am_ireturn dX3_isNumberNext_26 rfl (am_narZ (by decide)) hp
  · replace h := am_ifT b14 h
    refine am_aload_n dX3_isNumberNext_12 rfl ?_
    refine am_getI dX3_isNumberNext_13 fl_RX3_19 sh_3 rfl hk_3 ?_
    refine am_aload_n dX3_isNumberNext_16 rfl ?_
    refine am_getI dX3_isNumberNext_17 fl_RX3_85 sh_3 rfl hk_3 ?_
    refine am_isub dX3_isNumberNext_20 ?_
    refine am_iconst dX3_isNumberNext_21 ic_2 ?_
    refine am_icmp_le 27 dX3_isNumberNext_22 rfl (fun b13 => ?_) (fun b13 => ?_)
    · replace h := am_ifT b13 h
      refine am_aload_n dX3_isNumberNext_27 rfl ?_
      refine am_iconst dX3_isNumberNext_28 ic_0 ?_
      obtain ⟨M3, eM3, h⟩ := am_letE h
      refine am_putI dX3_isNumberNext_29 fl_RX3_68 fp_X3_5 sh_3 rfl rfl rfl hk_3 ?_
      refine am_mem eM3 ?_
      refine am_aload_n dX3_isNumberNext_32 rfl ?_
      refine am_getI dX3_isNumberNext_33 fl_RX3_85 sh_3 rfl hk_3 ?_
      obtain ⟨v4, ev4, h⟩ := am_letE h
      refine am_topI ev4 ?_
      refine am_istore_n (ls' := [(0, .inr (.inr (3, 0, 0))), (1, .inl x1), (2, .inl v4)]) dX3_isNumberNext_36 (Nat.le_of_ble_eq_true rfl) rfl ?_
      obtain ⟨z9, h10, h⟩ := am_bnd h
      have KK11 : am_W K (d + 2) m_X3_isNumberNext 72 [(0, .inr (.inr (3, 0, 0))), (1, .inl x1)] [] z9 post := by
        refine am_aload_n dX3_isNumberNext_72 rfl ?_
        refine am_getI dX3_isNumberNext_73 fl_RX3_68 sh_3 rfl hk_3 ?_
        refine am_iload_n dX3_isNumberNext_76 rfl ?_
        refine am_icmp_gt 84 dX3_isNumberNext_77 rfl (fun b12 => ?_) (fun b12 => ?_)
        · replace h := am_ifT b12 h
          refine am_iconst dX3_isNumberNext_84 ic_0 ?_
          obtain rfl := Option.some.inj h
          exact am_ireturn dX3_isNumberNext_85 rfl (am_narZ (by decide)) hp
        · replace h := am_ifF b12 h
          refine am_iconst dX3_isNumberNext_80 ic_1 ?_
          refine am_goto 85 dX3_isNumberNext_81 rfl ?_
          obtain rfl := Option.some.inj h
          exact am_ireturn dX3_isNumberNext_85 rfl (am_narZ (by decide)) hp
      exact am_drop [0, 1, 2] rfl (wl_X3_isNumberNext_37 _ _ _ _ h10 KK11)
    · replace h := am_ifF b13 h
      refine am_iconst dX3_isNumberNext_25 ic_0 ?_
      obtain rfl := Option.some.inj h
      exact am_ireturn dX3_isNumberNext_26 rfl (am_narZ (by decide)) hp
theorem c_X3_isNumberNext {K : am_K} {d : Nat} {M : am_M} {x1 : Int32} {y : Int32 × am_M} (h : f_X3_isNumberNext M x1 = some y) : am_Met K (d + 2) m_X3_isNumberNext [.inr (.inr (3, 0, 0)), .inl x1] M (fun q N => q = some (.inl y.1) ∧ N = y.2) :=
  am_Met_of cb_X3_isNumberNext (Nat.le_of_ble_eq_true rfl) (w_X3_isNumberNext h ⟨rfl, rfl⟩)
def f_X3_factStatement (M : am_M) (o1 : Nat) : Option (Int32 × am_M) :=
  (if (4 : Int32) ≤ (M.1 1 o1 0 9) then some ((0 : Int32), M) else (f_X3_isNumberNext M (3 : Int32)).bind (fun r2 => (if r2.1 = 0 then some ((0 : Int32), r2.2) else am_let (r2.2.1 3 0 0 5) (fun v3 => (f_X3_isNumberNext r2.2 (24 : Int32)).bind (fun r5 => (if r5.1 = 0 then some ((0 : Int32), r5.2) else am_let (r5.2.1 3 0 0 5) (fun v6 => (f_X3_isNumberNext r5.2 (24 : Int32)).bind (fun r8 => (if r8.1 = 0 then some ((0 : Int32), r8.2) else (f_X1_remember r8.2 o1 v3 v6 (r8.2.1 3 0 0 5)).bind (fun r10 => some ((1 : Int32), r10.2)))))))))))
set_option maxHeartbeats 4000000 in
theorem w_X3_factStatement {K : am_K} {d : Nat} {post : Option am_V → am_M → Prop} {M : am_M} {o1 : Nat} {y : Int32 × am_M} (h : f_X3_factStatement M o1 = some y) (hp : post (some (.inl y.1)) y.2) : am_W K (d + 3) m_X3_factStatement 0 [(0, .inr (.inr (3, 0, 0))), (1, .inr (.inr (1, o1, 0)))] [] M post := by
  unfold f_X3_factStatement at h
  refine am_aload_n dX3_factStatement_0 rfl ?_
  refine am_getI dX3_factStatement_1 fl_RX3_78 sh_1 rfl hk_1 ?_
  refine am_iconst dX3_factStatement_4 ic_4 ?_
  refine am_icmp_ge 16 dX3_factStatement_5 rfl (fun b14 => ?_) (fun b14 => ?_)
  · replace h := am_ifT b14 h
    refine am_iconst dX3_factStatement_16 ic_0 ?_
    obtain rfl := Option.some.inj h
    exact am_ireturn dX3_factStatement_17 rfl (am_narZ (by decide)) hp
  · replace h := am_ifF b14 h
    refine am_aload_n dX3_factStatement_8 rfl ?_
    refine am_iconst dX3_factStatement_9 ic_3 ?_
    obtain ⟨r2, c1, h⟩ := am_bnd h
    refine am_callVi (as := [.inl (3 : Int32)]) dX3_factStatement_10 cv_RX3_64 cb_X3_isNumberNext sh_3 rfl hk_3 rfl rfl (Nat.le_of_ble_eq_true rfl) (c_X3_isNumberNext c1) ?_
    refine am_if_ne 18 dX3_factStatement_13 rfl (fun b13 => ?_) (fun b13 => ?_)
    · replace h := am_ifF b13 h
      refine am_aload_n dX3_factStatement_18 rfl ?_
      refine am_getI dX3_factStatement_19 fl_RX3_68 sh_3 rfl hk_3 ?_
      obtain ⟨v3, ev3, h⟩ := am_letE h
      refine am_topI ev3 ?_
      refine am_istore_n (ls' := [(0, .inr (.inr (3, 0, 0))), (1, .inr (.inr (1, o1, 0))), (2, .inl v3)]) dX3_factStatement_22 (Nat.le_of_ble_eq_true rfl) rfl ?_
      refine am_aload_n dX3_factStatement_23 rfl ?_
      refine am_bipush dX3_factStatement_24 bp_24 ?_
      obtain ⟨r5, c4, h⟩ := am_bnd h
      refine am_callVi (as := [.inl (24 : Int32)]) dX3_factStatement_26 cv_RX3_64 cb_X3_isNumberNext sh_3 rfl hk_3 rfl rfl (Nat.le_of_ble_eq_true rfl) (c_X3_isNumberNext c4) ?_
      refine am_if_ne 34 dX3_factStatement_29 rfl (fun b12 => ?_) (fun b12 => ?_)
      · replace h := am_ifF b12 h
        refine am_aload_n dX3_factStatement_34 rfl ?_
        refine am_getI dX3_factStatement_35 fl_RX3_68 sh_3 rfl hk_3 ?_
        obtain ⟨v6, ev6, h⟩ := am_letE h
        refine am_topI ev6 ?_
        refine am_istore_n (ls' := [(0, .inr (.inr (3, 0, 0))), (1, .inr (.inr (1, o1, 0))), (2, .inl v3), (3, .inl v6)]) dX3_factStatement_38 (Nat.le_of_ble_eq_true rfl) rfl ?_
        refine am_aload_n dX3_factStatement_39 rfl ?_
        refine am_bipush dX3_factStatement_40 bp_24 ?_
        obtain ⟨r8, c7, h⟩ := am_bnd h
        refine am_callVi (as := [.inl (24 : Int32)]) dX3_factStatement_42 cv_RX3_64 cb_X3_isNumberNext sh_3 rfl hk_3 rfl rfl (Nat.le_of_ble_eq_true rfl) (c_X3_isNumberNext c7) ?_
        refine am_if_ne 50 dX3_factStatement_45 rfl (fun b11 => ?_) (fun b11 => ?_)
        · replace h := am_ifF b11 h
          refine am_aload_n dX3_factStatement_50 rfl ?_
          refine am_iload_n dX3_factStatement_51 rfl ?_
          refine am_iload_n dX3_factStatement_52 rfl ?_
          refine am_aload_n dX3_factStatement_53 rfl ?_
          refine am_getI dX3_factStatement_54 fl_RX3_68 sh_3 rfl hk_3 ?_
          obtain ⟨r10, c9, h⟩ := am_bnd h
          refine am_callVi (as := [.inl v3, .inl v6, .inl (r8.2.1 3 0 0 5)]) dX3_factStatement_57 cv_RX3_81 cb_X1_remember sh_1 rfl hk_1 rfl rfl (Nat.le_of_ble_eq_true rfl) (c_X1_remember c9) ?_
          refine am_pop dX3_factStatement_60 rfl ?_
          refine am_iconst dX3_factStatement_61 ic_1 ?_
          obtain rfl := Option.some.inj h
          exact am_ireturn dX3_factStatement_62 rfl (am_narZ (by decide)) hp
        · replace h := am_ifT b11 h
          refine am_iconst dX3_factStatement_48 ic_0 ?_
          obtain rfl := Option.some.inj h
          exact am_ireturn dX3_factStatement_49 rfl (am_narZ (by decide)) hp
      · replace h := am_ifT b12 h
        refine am_iconst dX3_factStatement_32 ic_0 ?_
        obtain rfl := Option.some.inj h
        exact am_ireturn dX3_factStatement_33 rfl (am_narZ (by decide)) hp
    · replace h := am_ifT b13 h
      refine am_iconst dX3_factStatement_16 ic_0 ?_
      obtain rfl := Option.some.inj h
      exact am_ireturn dX3_factStatement_17 rfl (am_narZ (by decide)) hp
theorem c_X3_factStatement {K : am_K} {d : Nat} {M : am_M} {o1 : Nat} {y : Int32 × am_M} (h : f_X3_factStatement M o1 = some y) : am_Met K (d + 3) m_X3_factStatement [.inr (.inr (3, 0, 0)), .inr (.inr (1, o1, 0))] M (fun q N => q = some (.inl y.1) ∧ N = y.2) :=
  am_Met_of cb_X3_factStatement (Nat.le_of_ble_eq_true rfl) (w_X3_factStatement h ⟨rfl, rfl⟩)
def f_X3_heapStatement (M : am_M) (o1 : Nat) : Option (Int32 × am_M) :=
  (if 0 < (M.1 1 o1 0 6) then some ((0 : Int32), M) else (if (4 : Int32) ≤ (M.1 1 o1 0 0) then some ((0 : Int32), M) else (f_X3_isNumberNext M (9 : Int32)).bind (fun r2 => (if r2.1 = 0 then some ((0 : Int32), r2.2) else am_let (r2.2.1 3 0 0 5) (fun v3 => (f_X3_isNumberNext r2.2 (9 : Int32)).bind (fun r5 => (if r5.1 = 0 then some ((0 : Int32), r5.2) else (if (v3 + (r5.2.1 3 0 0 5)) = 0 then some ((0 : Int32), r5.2) else (f_X1_hasRoom r5.2 o1 (v3 + (r5.2.1 3 0 0 5))).bind (fun r7 => (if r7 = 0 then some ((0 : Int32), r5.2) else (f_X1_layIn r5.2 o1 v3 (r5.2.1 3 0 0 5)).bind (fun r9 => some ((1 : Int32), r9.2))))))))))))
set_option maxHeartbeats 4000000 in
theorem w_X3_heapStatement {K : am_K} {d : Nat} {post : Option am_V → am_M → Prop} {M : am_M} {o1 : Nat} {y : Int32 × am_M} (h : f_X3_heapStatement M o1 = some y) (hp : post (some (.inl y.1)) y.2) : am_W K (d + 3) m_X3_heapStatement 0 [(0, .inr (.inr (3, 0, 0))), (1, .inr (.inr (1, o1, 0)))] [] M post := by
  unfold f_X3_heapStatement at h
  refine am_aload_n dX3_heapStatement_0 rfl ?_
  refine am_getI dX3_heapStatement_1 fl_RX3_56 sh_1 rfl hk_1 ?_
  refine am_if_gt 24 dX3_heapStatement_4 rfl (fun b15 => ?_) (fun b15 => ?_)
  · replace h := am_ifT b15 h
    refine am_iconst dX3_heapStatement_24 ic_0 ?_
    obtain rfl := Option.some.inj h
    exact am_ireturn dX3_heapStatement_25 rfl (am_narZ (by decide)) hp
  · replace h := am_ifF b15 h
    refine am_aload_n dX3_heapStatement_7 rfl ?_
    refine am_getI dX3_heapStatement_8 fl_RX3_61 sh_1 rfl hk_1 ?_
    refine am_iconst dX3_heapStatement_11 ic_4 ?_
    refine am_icmp_ge 24 dX3_heapStatement_12 rfl (fun b14 => ?_) (fun b14 => ?_)
    · replace h := am_ifT b14 h
      refine am_iconst dX3_heapStatement_24 ic_0 ?_
      obtain rfl := Option.some.inj h
      exact am_ireturn dX3_heapStatement_25 rfl (am_narZ (by decide)) hp
    · replace h := am_ifF b14 h
      refine am_aload_n dX3_heapStatement_15 rfl ?_
      refine am_bipush dX3_heapStatement_16 bp_9 ?_
      obtain ⟨r2, c1, h⟩ := am_bnd h
      refine am_callVi (as := [.inl (9 : Int32)]) dX3_heapStatement_18 cv_RX3_64 cb_X3_isNumberNext sh_3 rfl hk_3 rfl rfl (Nat.le_of_ble_eq_true rfl) (c_X3_isNumberNext c1) ?_
      refine am_if_ne 26 dX3_heapStatement_21 rfl (fun b13 => ?_) (fun b13 => ?_)
      · replace h := am_ifF b13 h
        refine am_aload_n dX3_heapStatement_26 rfl ?_
        refine am_getI dX3_heapStatement_27 fl_RX3_68 sh_3 rfl hk_3 ?_
        obtain ⟨v3, ev3, h⟩ := am_letE h
        refine am_topI ev3 ?_
        refine am_istore_n (ls' := [(0, .inr (.inr (3, 0, 0))), (1, .inr (.inr (1, o1, 0))), (2, .inl v3)]) dX3_heapStatement_30 (Nat.le_of_ble_eq_true rfl) rfl ?_
        refine am_aload_n dX3_heapStatement_31 rfl ?_
        refine am_bipush dX3_heapStatement_32 bp_9 ?_
        obtain ⟨r5, c4, h⟩ := am_bnd h
        refine am_callVi (as := [.inl (9 : Int32)]) dX3_heapStatement_34 cv_RX3_64 cb_X3_isNumberNext sh_3 rfl hk_3 rfl rfl (Nat.le_of_ble_eq_true rfl) (c_X3_isNumberNext c4) ?_
        refine am_if_eq 62 dX3_heapStatement_37 rfl (fun b12 => ?_) (fun b12 => ?_)
        · replace h := am_ifT b12 h
          refine am_iconst dX3_heapStatement_62 ic_0 ?_
          obtain rfl := Option.some.inj h
          exact am_ireturn dX3_heapStatement_63 rfl (am_narZ (by decide)) hp
        · replace h := am_ifF b12 h
          refine am_iload_n dX3_heapStatement_40 rfl ?_
          refine am_aload_n dX3_heapStatement_41 rfl ?_
          refine am_getI dX3_heapStatement_42 fl_RX3_68 sh_3 rfl hk_3 ?_
          refine am_iadd dX3_heapStatement_45 ?_
          refine am_if_eq 62 dX3_heapStatement_46 rfl (fun b11 => ?_) (fun b11 => ?_)
          · replace h := am_ifT b11 h
            refine am_iconst dX3_heapStatement_62 ic_0 ?_
            obtain rfl := Option.some.inj h
            exact am_ireturn dX3_heapStatement_63 rfl (am_narZ (by decide)) hp
          · replace h := am_ifF b11 h
            refine am_aload_n dX3_heapStatement_49 rfl ?_
            refine am_iload_n dX3_heapStatement_50 rfl ?_
            refine am_aload_n dX3_heapStatement_51 rfl ?_
            refine am_getI dX3_heapStatement_52 fl_RX3_68 sh_3 rfl hk_3 ?_
            refine am_iadd dX3_heapStatement_55 ?_
            obtain ⟨r7, c6, h⟩ := am_bnd h
            refine am_callVi (as := [.inl (v3 + (r5.2.1 3 0 0 5))]) dX3_heapStatement_56 cv_RX3_71 cb_X1_hasRoom sh_1 rfl hk_1 rfl rfl (Nat.le_of_ble_eq_true rfl) (c_X1_hasRoom c6) ?_
            refine am_if_ne 64 dX3_heapStatement_59 rfl (fun b10 => ?_) (fun b10 => ?_)
            · replace h := am_ifF b10 h
              refine am_aload_n dX3_heapStatement_64 rfl ?_
              refine am_iload_n dX3_heapStatement_65 rfl ?_
              refine am_aload_n dX3_heapStatement_66 rfl ?_
              refine am_getI dX3_heapStatement_67 fl_RX3_68 sh_3 rfl hk_3 ?_
              obtain ⟨r9, c8, h⟩ := am_bnd h
              refine am_callVi (as := [.inl v3, .inl (r5.2.1 3 0 0 5)]) dX3_heapStatement_70 cv_RX3_74 cb_X1_layIn sh_1 rfl hk_1 rfl rfl (Nat.le_of_ble_eq_true rfl) (c_X1_layIn c8) ?_
              refine am_pop dX3_heapStatement_73 rfl ?_
              refine am_iconst dX3_heapStatement_74 ic_1 ?_
              obtain rfl := Option.some.inj h
              exact am_ireturn dX3_heapStatement_75 rfl (am_narZ (by decide)) hp
            · replace h := am_ifT b10 h
              refine am_iconst dX3_heapStatement_62 ic_0 ?_
              obtain rfl := Option.some.inj h
              exact am_ireturn dX3_heapStatement_63 rfl (am_narZ (by decide)) hp
      · replace h := am_ifT b13 h
        refine am_iconst dX3_heapStatement_24 ic_0 ?_
        obtain rfl := Option.some.inj h
        exact am_ireturn dX3_heapStatement_25 rfl (am_narZ (by decide)) hp
theorem c_X3_heapStatement {K : am_K} {d : Nat} {M : am_M} {o1 : Nat} {y : Int32 × am_M} (h : f_X3_heapStatement M o1 = some y) : am_Met K (d + 3) m_X3_heapStatement [.inr (.inr (3, 0, 0)), .inr (.inr (1, o1, 0))] M (fun q N => q = some (.inl y.1) ∧ N = y.2) :=
  am_Met_of cb_X3_heapStatement (Nat.le_of_ble_eq_true rfl) (w_X3_heapStatement h ⟨rfl, rfl⟩)
def l_X3_readStatement_19 (o1a : Nat) : Nat → Int32 → am_M → Option (Int32 × am_M)
  | 0, _, _ => none
  | n + 1, a2, M => (if (M.1 3 0 0 3) ≤ a2 then some ((1 : Int32), M) else if am_inb a2 250 = true then (if (M.1 402 0 0 a2.toNatClampNeg) = (97 : Int32) then if am_inb a2 250 = true then ((if (M.1 402 0 0 a2.toNatClampNeg) = (97 : Int32) then some (1 : Int32) else some (0 : Int32)) : Option (Int32)).bind (fun z6 => (f_X1_take M o1a z6).bind (fun r11 => (if r11.1 = 0 then some ((0 : Int32), r11.2) else am_let (a2 + (1 : Int32)) (fun v12 => l_X3_readStatement_19 o1a n v12 r11.2)))) else none else if am_inb a2 250 = true then (if (M.1 402 0 0 a2.toNatClampNeg) = (98 : Int32) then if am_inb a2 250 = true then ((if (M.1 402 0 0 a2.toNatClampNeg) = (97 : Int32) then some (1 : Int32) else some (0 : Int32)) : Option (Int32)).bind (fun z16 => (f_X1_take M o1a z16).bind (fun r21 => (if r21.1 = 0 then some ((0 : Int32), r21.2) else am_let (a2 + (1 : Int32)) (fun v22 => l_X3_readStatement_19 o1a n v22 r21.2)))) else none else some ((0 : Int32), M)) else none) else none)
set_option maxHeartbeats 4000000 in
theorem wl_X3_readStatement_19 {K : am_K} {d : Nat} {post : Option am_V → am_M → Prop} {o1a : Nat} : ∀ (n : Nat) (a2 : Int32) (M : am_M) (y : Int32 × am_M), l_X3_readStatement_19 o1a n a2 M = some y → post (some (.inl y.1)) y.2 → am_W K (d + 3) m_X3_readStatement 19 [(0, .inr (.inr (3, 0, 0))), (1, .inr (.inr (1, o1a, 0))), (2, .inl a2)] [] M post := by
  intro n
  induction n with
  | zero => intro a2 M y h hp; cases h
  | succ n ih =>
    intro a2 M y h hp
    rw [l_X3_readStatement_19] at h
    refine am_iload_n dX3_readStatement_19 rfl ?_
    refine am_aload_n dX3_readStatement_20 rfl ?_
    refine am_getI dX3_readStatement_21 fl_RX3_19 sh_3 rfl hk_3 ?_
    refine am_icmp_ge 80 dX3_readStatement_24 rfl (fun b26 => ?_) (fun b26 => ?_)
    · replace h := am_ifT b26 h
      refine am_iconst dX3_readStatement_80 ic_1 ?_
      obtain rfl := Option.some.inj h
      exact am_ireturn dX3_readStatement_81 rfl (am_narZ (by decide)) hp
    · replace h := am_ifF b26 h
      refine am_aload_n dX3_readStatement_27 rfl ?_
      refine am_getR (o' := 0) dX3_readStatement_28 fl_RX3_9 sh_3 rfl rfl hk_3 ?_
      refine am_iload_n dX3_readStatement_31 rfl ?_
      obtain ⟨g4, h⟩ := am_grd h
      refine am_iaload dX3_readStatement_32 sh_402 hk_402 (am_inbE g4) ?_
      refine am_bipush dX3_readStatement_33 bp_97 ?_
      refine am_icmp_eq 49 dX3_readStatement_35 rfl (fun b25 => ?_) (fun b25 => ?_)
      · replace h := am_ifT b25 h
        refine am_aload_n dX3_readStatement_49 rfl ?_
        refine am_aload_n dX3_readStatement_50 rfl ?_
        refine am_getR (o' := 0) dX3_readStatement_51 fl_RX3_9 sh_3 rfl rfl hk_3 ?_
        refine am_iload_n dX3_readStatement_54 rfl ?_
        obtain ⟨g5, h⟩ := am_grd h
        refine am_iaload dX3_readStatement_55 sh_402 hk_402 (am_inbE g5) ?_
        refine am_bipush dX3_readStatement_56 bp_97 ?_
        obtain ⟨z6, h7, h⟩ := am_bnd h
        have KK8 : am_W K (d + 3) m_X3_readStatement 66 [(0, .inr (.inr (3, 0, 0))), (1, .inr (.inr (1, o1a, 0))), (2, .inl a2)] [.inl z6, .inr (.inr (1, o1a, 0))] M post := by
          obtain ⟨r11, c10, h⟩ := am_bnd h
          refine am_callVi (as := [.inl z6]) dX3_readStatement_66 cv_RX3_88 cb_X1_take sh_1 rfl hk_1 rfl rfl (Nat.le_of_ble_eq_true rfl) (c_X1_take c10) ?_
          refine am_if_ne 74 dX3_readStatement_69 rfl (fun b13 => ?_) (fun b13 => ?_)
          · replace h := am_ifF b13 h
            obtain ⟨v12, ev12, h⟩ := am_letE h
            refine am_iinc (ls' := [(0, .inr (.inr (3, 0, 0))), (1, .inr (.inr (1, o1a, 0))), (2, .inl v12)]) dX3_readStatement_74 rfl ((congrArg (fun z => a2 + z) ic_1).trans ev12.symm) (Nat.le_of_ble_eq_true rfl) rfl ?_
            refine am_goto 19 dX3_readStatement_77 rfl ?_
            exact am_drop [0, 1, 2] rfl (ih _ _ _ h hp)
          · replace h := am_ifT b13 h
            refine am_iconst dX3_readStatement_72 ic_0 ?_
            obtain rfl := Option.some.inj h
            exact am_ireturn dX3_readStatement_73 rfl (am_narZ (by decide)) hp
        clear h
        refine am_icmp_ne 65 dX3_readStatement_58 rfl (fun b9 => ?_) (fun b9 => ?_)
        · replace h7 := am_ifF b9 h7
          refine am_iconst dX3_readStatement_65 ic_0 ?_
          obtain rfl := Option.some.inj h7
          exact am_drop [0, 1, 2] rfl KK8
        · replace h7 := am_ifT b9 h7
          refine am_iconst dX3_readStatement_61 ic_1 ?_
          refine am_goto 66 dX3_readStatement_62 rfl ?_
          obtain rfl := Option.some.inj h7
          exact am_drop [0, 1, 2] rfl KK8
      · replace h := am_ifF b25 h
        refine am_aload_n dX3_readStatement_38 rfl ?_
        refine am_getR (o' := 0) dX3_readStatement_39 fl_RX3_9 sh_3 rfl rfl hk_3 ?_
        refine am_iload_n dX3_readStatement_42 rfl ?_
        obtain ⟨g14, h⟩ := am_grd h
        refine am_iaload dX3_readStatement_43 sh_402 hk_402 (am_inbE g14) ?_
        refine am_bipush dX3_readStatement_44 bp_98 ?_
        refine am_icmp_ne 72 dX3_readStatement_46 rfl (fun b24 => ?_) (fun b24 => ?_)
        · replace h := am_ifF b24 h
          refine am_iconst dX3_readStatement_72 ic_0 ?_
          obtain rfl := Option.some.inj h
          exact am_ireturn dX3_readStatement_73 rfl (am_narZ (by decide)) hp
        · replace h := am_ifT b24 h
          refine am_aload_n dX3_readStatement_49 rfl ?_
          refine am_aload_n dX3_readStatement_50 rfl ?_
          refine am_getR (o' := 0) dX3_readStatement_51 fl_RX3_9 sh_3 rfl rfl hk_3 ?_
          refine am_iload_n dX3_readStatement_54 rfl ?_
          obtain ⟨g15, h⟩ := am_grd h
          refine am_iaload dX3_readStatement_55 sh_402 hk_402 (am_inbE g15) ?_
          refine am_bipush dX3_readStatement_56 bp_97 ?_
          obtain ⟨z16, h17, h⟩ := am_bnd h
          have KK18 : am_W K (d + 3) m_X3_readStatement 66 [(0, .inr (.inr (3, 0, 0))), (1, .inr (.inr (1, o1a, 0))), (2, .inl a2)] [.inl z16, .inr (.inr (1, o1a, 0))] M post := by
            obtain ⟨r21, c20, h⟩ := am_bnd h
            refine am_callVi (as := [.inl z16]) dX3_readStatement_66 cv_RX3_88 cb_X1_take sh_1 rfl hk_1 rfl rfl (Nat.le_of_ble_eq_true rfl) (c_X1_take c20) ?_
            refine am_if_ne 74 dX3_readStatement_69 rfl (fun b23 => ?_) (fun b23 => ?_)
            · replace h := am_ifF b23 h
              obtain ⟨v22, ev22, h⟩ := am_letE h
              refine am_iinc (ls' := [(0, .inr (.inr (3, 0, 0))), (1, .inr (.inr (1, o1a, 0))), (2, .inl v22)]) dX3_readStatement_74 rfl ((congrArg (fun z => a2 + z) ic_1).trans ev22.symm) (Nat.le_of_ble_eq_true rfl) rfl ?_
              refine am_goto 19 dX3_readStatement_77 rfl ?_
              exact am_drop [0, 1, 2] rfl (ih _ _ _ h hp)
            · replace h := am_ifT b23 h
              refine am_iconst dX3_readStatement_72 ic_0 ?_
              obtain rfl := Option.some.inj h
              exact am_ireturn dX3_readStatement_73 rfl (am_narZ (by decide)) hp
          clear h
          refine am_icmp_ne 65 dX3_readStatement_58 rfl (fun b19 => ?_) (fun b19 => ?_)
          · replace h17 := am_ifF b19 h17
            refine am_iconst dX3_readStatement_65 ic_0 ?_
            obtain rfl := Option.some.inj h17
            exact am_drop [0, 1, 2] rfl KK18
          · replace h17 := am_ifT b19 h17
            refine am_iconst dX3_readStatement_61 ic_1 ?_
            refine am_goto 66 dX3_readStatement_62 rfl ?_
            obtain rfl := Option.some.inj h17
            exact am_drop [0, 1, 2] rfl KK18
def f_X3_readStatement (M : am_M) (o1 : Nat) : Option (Int32 × am_M) :=
  (f_X3_nextToken M).bind (fun r2 => (if (r2.1 3 0 0 4) = (1 : Int32) then am_let (r2.1 3 0 0 1) (fun v3 => l_X3_readStatement_19 o1 1000 v3 r2) else some ((0 : Int32), r2)))
set_option maxHeartbeats 4000000 in
theorem w_X3_readStatement {K : am_K} {d : Nat} {post : Option am_V → am_M → Prop} {M : am_M} {o1 : Nat} {y : Int32 × am_M} (h : f_X3_readStatement M o1 = some y) (hp : post (some (.inl y.1)) y.2) : am_W K (d + 3) m_X3_readStatement 0 [(0, .inr (.inr (3, 0, 0))), (1, .inr (.inr (1, o1, 0)))] [] M post := by
  unfold f_X3_readStatement at h
  refine am_aload_n dX3_readStatement_0 rfl ?_
  obtain ⟨r2, c1, h⟩ := am_bnd h
  refine am_callVv (as := []) dX3_readStatement_1 cv_RX3_22 cb_X3_nextToken sh_3 rfl hk_3 rfl rfl (Nat.le_of_ble_eq_true rfl) (c_X3_nextToken c1) ?_
  refine am_aload_n dX3_readStatement_4 rfl ?_
  refine am_getI dX3_readStatement_5 fl_RX3_29 sh_3 rfl hk_3 ?_
  refine am_iconst dX3_readStatement_8 ic_1 ?_
  refine am_icmp_eq 14 dX3_readStatement_9 rfl (fun b27 => ?_) (fun b27 => ?_)
  · replace h := am_ifT b27 h
    refine am_aload_n dX3_readStatement_14 rfl ?_
    refine am_getI dX3_readStatement_15 fl_RX3_85 sh_3 rfl hk_3 ?_
    obtain ⟨v3, ev3, h⟩ := am_letE h
    refine am_topI ev3 ?_
    refine am_istore_n (ls' := [(0, .inr (.inr (3, 0, 0))), (1, .inr (.inr (1, o1, 0))), (2, .inl v3)]) dX3_readStatement_18 (Nat.le_of_ble_eq_true rfl) rfl ?_
    exact am_drop [0, 1, 2] rfl (wl_X3_readStatement_19 _ _ _ _ h hp)
  · replace h := am_ifF b27 h
    refine am_iconst dX3_readStatement_12 ic_0 ?_
    obtain rfl := Option.some.inj h
    exact am_ireturn dX3_readStatement_13 rfl (am_narZ (by decide)) hp
theorem c_X3_readStatement {K : am_K} {d : Nat} {M : am_M} {o1 : Nat} {y : Int32 × am_M} (h : f_X3_readStatement M o1 = some y) : am_Met K (d + 3) m_X3_readStatement [.inr (.inr (3, 0, 0)), .inr (.inr (1, o1, 0))] M (fun q N => q = some (.inl y.1) ∧ N = y.2) :=
  am_Met_of cb_X3_readStatement (Nat.le_of_ble_eq_true rfl) (w_X3_readStatement h ⟨rfl, rfl⟩)
def f_X3_swapStatement (M : am_M) (o1 : Nat) : Option (Int32 × am_M) :=
  (if 0 < (M.1 1 o1 0 6) then some ((0 : Int32), M) else (f_X3_isNumberNext M ((M.1 1 o1 0 0) - (1 : Int32))).bind (fun r2 => (if r2.1 = 0 then some ((0 : Int32), r2.2) else am_let (r2.2.1 3 0 0 5) (fun v3 => (f_X3_isNumberNext r2.2 ((r2.2.1 1 o1 0 0) - (1 : Int32))).bind (fun r5 => (if r5.1 = 0 then some ((0 : Int32), r5.2) else (if (r5.2.1 3 0 0 5) = v3 then some ((0 : Int32), r5.2) else (f_X1_exchange r5.2 o1 v3 (r5.2.1 3 0 0 5)).bind (fun r7 => some ((1 : Int32), r7)))))))))
set_option maxHeartbeats 4000000 in
theorem w_X3_swapStatement {K : am_K} {d : Nat} {post : Option am_V → am_M → Prop} {M : am_M} {o1 : Nat} {y : Int32 × am_M} (h : f_X3_swapStatement M o1 = some y) (hp : post (some (.inl y.1)) y.2) : am_W K (d + 3) m_X3_swapStatement 0 [(0, .inr (.inr (3, 0, 0))), (1, .inr (.inr (1, o1, 0)))] [] M post := by
  unfold f_X3_swapStatement at h
  refine am_aload_n dX3_swapStatement_0 rfl ?_
  refine am_getI dX3_swapStatement_1 fl_RX3_56 sh_1 rfl hk_1 ?_
  refine am_if_gt 20 dX3_swapStatement_4 rfl (fun b11 => ?_) (fun b11 => ?_)
  · replace h := am_ifT b11 h
    refine am_iconst dX3_swapStatement_20 ic_0 ?_
    obtain rfl := Option.some.inj h
    exact am_ireturn dX3_swapStatement_21 rfl (am_narZ (by decide)) hp
  · replace h := am_ifF b11 h
    refine am_aload_n dX3_swapStatement_7 rfl ?_
    refine am_aload_n dX3_swapStatement_8 rfl ?_
    refine am_getI dX3_swapStatement_9 fl_RX3_61 sh_1 rfl hk_1 ?_
    refine am_iconst dX3_swapStatement_12 ic_1 ?_
    refine am_isub dX3_swapStatement_13 ?_
    obtain ⟨r2, c1, h⟩ := am_bnd h
    refine am_callVi (as := [.inl ((M.1 1 o1 0 0) - (1 : Int32))]) dX3_swapStatement_14 cv_RX3_64 cb_X3_isNumberNext sh_3 rfl hk_3 rfl rfl (Nat.le_of_ble_eq_true rfl) (c_X3_isNumberNext c1) ?_
    refine am_if_ne 22 dX3_swapStatement_17 rfl (fun b10 => ?_) (fun b10 => ?_)
    · replace h := am_ifF b10 h
      refine am_aload_n dX3_swapStatement_22 rfl ?_
      refine am_getI dX3_swapStatement_23 fl_RX3_68 sh_3 rfl hk_3 ?_
      obtain ⟨v3, ev3, h⟩ := am_letE h
      refine am_topI ev3 ?_
      refine am_istore_n (ls' := [(0, .inr (.inr (3, 0, 0))), (1, .inr (.inr (1, o1, 0))), (2, .inl v3)]) dX3_swapStatement_26 (Nat.le_of_ble_eq_true rfl) rfl ?_
      refine am_aload_n dX3_swapStatement_27 rfl ?_
      refine am_aload_n dX3_swapStatement_28 rfl ?_
      refine am_getI dX3_swapStatement_29 fl_RX3_61 sh_1 rfl hk_1 ?_
      refine am_iconst dX3_swapStatement_32 ic_1 ?_
      refine am_isub dX3_swapStatement_33 ?_
      obtain ⟨r5, c4, h⟩ := am_bnd h
      refine am_callVi (as := [.inl ((r2.2.1 1 o1 0 0) - (1 : Int32))]) dX3_swapStatement_34 cv_RX3_64 cb_X3_isNumberNext sh_3 rfl hk_3 rfl rfl (Nat.le_of_ble_eq_true rfl) (c_X3_isNumberNext c4) ?_
      refine am_if_eq 48 dX3_swapStatement_37 rfl (fun b9 => ?_) (fun b9 => ?_)
      · replace h := am_ifT b9 h
        refine am_iconst dX3_swapStatement_48 ic_0 ?_
        obtain rfl := Option.some.inj h
        exact am_ireturn dX3_swapStatement_49 rfl (am_narZ (by decide)) hp
      · replace h := am_ifF b9 h
        refine am_aload_n dX3_swapStatement_40 rfl ?_
        refine am_getI dX3_swapStatement_41 fl_RX3_68 sh_3 rfl hk_3 ?_
        refine am_iload_n dX3_swapStatement_44 rfl ?_
        refine am_icmp_ne 50 dX3_swapStatement_45 rfl (fun b8 => ?_) (fun b8 => ?_)
        · replace h := am_ifF b8 h
          refine am_aload_n dX3_swapStatement_50 rfl ?_
          refine am_iload_n dX3_swapStatement_51 rfl ?_
          refine am_aload_n dX3_swapStatement_52 rfl ?_
          refine am_getI dX3_swapStatement_53 fl_RX3_68 sh_3 rfl hk_3 ?_
          obtain ⟨r7, c6, h⟩ := am_bnd h
          refine am_callVv (as := [.inl v3, .inl (r5.2.1 3 0 0 5)]) dX3_swapStatement_56 cv_RX3_92 cb_X1_exchange sh_1 rfl hk_1 rfl rfl (Nat.le_of_ble_eq_true rfl) (c_X1_exchange c6) ?_
          refine am_iconst dX3_swapStatement_59 ic_1 ?_
          obtain rfl := Option.some.inj h
          exact am_ireturn dX3_swapStatement_60 rfl (am_narZ (by decide)) hp
        · replace h := am_ifT b8 h
          refine am_iconst dX3_swapStatement_48 ic_0 ?_
          obtain rfl := Option.some.inj h
          exact am_ireturn dX3_swapStatement_49 rfl (am_narZ (by decide)) hp
    · replace h := am_ifT b10 h
      refine am_iconst dX3_swapStatement_20 ic_0 ?_
      obtain rfl := Option.some.inj h
      exact am_ireturn dX3_swapStatement_21 rfl (am_narZ (by decide)) hp
theorem c_X3_swapStatement {K : am_K} {d : Nat} {M : am_M} {o1 : Nat} {y : Int32 × am_M} (h : f_X3_swapStatement M o1 = some y) : am_Met K (d + 3) m_X3_swapStatement [.inr (.inr (3, 0, 0)), .inr (.inr (1, o1, 0))] M (fun q N => q = some (.inl y.1) ∧ N = y.2) :=
  am_Met_of cb_X3_swapStatement (Nat.le_of_ble_eq_true rfl) (w_X3_swapStatement h ⟨rfl, rfl⟩)
def f_X4_isShelf (M : am_M) (x0 : Int32) : Option (Int32) :=
  (f_X4_isWithin M x0 (7 : Int32)).bind (fun r2 => if (r2 = 0 ∨ r2 = 1) then some r2 else none)
set_option maxHeartbeats 4000000 in
theorem w_X4_isShelf {K : am_K} {d : Nat} {post : Option am_V → am_M → Prop} {M : am_M} {x0 : Int32} {y : Int32} (h : f_X4_isShelf M x0 = some y) (hp : post (some (.inl y)) M) : am_W K (d + 1) m_X4_isShelf 0 [(0, .inl x0)] [] M post := by
  unfold f_X4_isShelf at h
  refine am_iload_n dX4_isShelf_0 rfl ?_
  refine am_bipush dX4_isShelf_1 bp_7 ?_
  obtain ⟨r2, c1, h⟩ := am_bnd h
  refine am_callSi (as := [.inl x0, .inl (7 : Int32)]) dX4_isShelf_3 cs_RX4_54 cb_X4_isWithin rfl rfl (Nat.le_of_ble_eq_true rfl) (c_X4_isWithin c1) ?_
  obtain ⟨g3, h⟩ := am_grd h
  obtain rfl := Option.some.inj h
  exact am_ireturn dX4_isShelf_6 rfl (am_narZ g3) hp
theorem c_X4_isShelf {K : am_K} {d : Nat} {M : am_M} {x0 : Int32} {y : Int32} (h : f_X4_isShelf M x0 = some y) : am_Met K (d + 1) m_X4_isShelf [.inl x0] M (fun q N => q = some (.inl y) ∧ N = M) :=
  am_Met_of cb_X4_isShelf (Nat.le_of_ble_eq_true rfl) (w_X4_isShelf h ⟨rfl, rfl⟩)
def f_X4_refuse (M : am_M) (x1 : Int32) : Option (Int32 × am_M) :=
  am_let ((-2 : Int32) - x1) (fun v1 => (f_X4_isWithin M v1 ((5 : Int32) - (1 : Int32))).bind (fun r3 => (if r3 = 0 then some (x1, M) else if am_inb v1 5 = true then if am_inb v1 5 = true then am_let (am_si M 507 0 0 v1.toNatClampNeg ((M.1 507 0 0 v1.toNatClampNeg) + (1 : Int32))) (fun M6 => some (x1, M6)) else none else none)))
set_option maxHeartbeats 4000000 in
theorem w_X4_refuse {K : am_K} {d : Nat} {post : Option am_V → am_M → Prop} {M : am_M} {x1 : Int32} {y : Int32 × am_M} (h : f_X4_refuse M x1 = some y) (hp : post (some (.inl y.1)) y.2) : am_W K (d + 1) m_X4_refuse 0 [(0, .inr (.inr (4, 0, 0))), (1, .inl x1)] [] M post := by
  unfold f_X4_refuse at h
  refine am_bipush dX4_refuse_0 bp_m2 ?_
  refine am_iload_n dX4_refuse_2 rfl ?_
  refine am_isub dX4_refuse_3 ?_
  obtain ⟨v1, ev1, h⟩ := am_letE h
  refine am_topI ev1 ?_
  refine am_istore_n (ls' := [(0, .inr (.inr (4, 0, 0))), (1, .inl x1), (2, .inl v1)]) dX4_refuse_4 (Nat.le_of_ble_eq_true rfl) rfl ?_
  refine am_iload_n dX4_refuse_5 rfl ?_
  refine am_aload_n dX4_refuse_6 rfl ?_
  refine am_getR (o' := 0) dX4_refuse_7 fl_RX4_46 sh_4 rfl rfl hk_4 ?_
  refine am_alen dX4_refuse_10 sh_507 (by decide) hk_507 on_5 ?_
  refine am_iconst dX4_refuse_11 ic_1 ?_
  refine am_isub dX4_refuse_12 ?_
  obtain ⟨r3, c2, h⟩ := am_bnd h
  refine am_callSi (as := [.inl v1, .inl ((5 : Int32) - (1 : Int32))]) dX4_refuse_13 cs_RX4_54 cb_X4_isWithin rfl rfl (Nat.le_of_ble_eq_true rfl) (c_X4_isWithin c2) ?_
  refine am_if_eq 29 dX4_refuse_16 rfl (fun b7 => ?_) (fun b7 => ?_)
  · replace h := am_ifT b7 h
    refine am_iload_n dX4_refuse_29 rfl ?_
    obtain rfl := Option.some.inj h
    exact am_ireturn dX4_refuse_30 rfl rfl hp
  · replace h := am_ifF b7 h
    refine am_aload_n dX4_refuse_19 rfl ?_
    refine am_getR (o' := 0) dX4_refuse_20 fl_RX4_46 sh_4 rfl rfl hk_4 ?_
    refine am_iload_n dX4_refuse_23 rfl ?_
    refine am_dup2 dX4_refuse_24 rfl rfl ?_
    obtain ⟨g4, h⟩ := am_grd h
    refine am_iaload dX4_refuse_25 sh_507 hk_507 (am_inbE g4) ?_
    refine am_iconst dX4_refuse_26 ic_1 ?_
    refine am_iadd dX4_refuse_27 ?_
    obtain ⟨g5, h⟩ := am_grd h
    obtain ⟨M6, eM6, h⟩ := am_letE h
    refine am_iastore dX4_refuse_28 sh_507 hk_507 (am_inbE g5) ?_
    refine am_mem eM6 ?_
    refine am_iload_n dX4_refuse_29 rfl ?_
    obtain rfl := Option.some.inj h
    exact am_ireturn dX4_refuse_30 rfl rfl hp
theorem c_X4_refuse {K : am_K} {d : Nat} {M : am_M} {x1 : Int32} {y : Int32 × am_M} (h : f_X4_refuse M x1 = some y) : am_Met K (d + 1) m_X4_refuse [.inr (.inr (4, 0, 0)), .inl x1] M (fun q N => q = some (.inl y.1) ∧ N = y.2) :=
  am_Met_of cb_X4_refuse (Nat.le_of_ble_eq_true rfl) (w_X4_refuse h ⟨rfl, rfl⟩)
def f_X4_row (M : am_M) (x1 : Int32) (x2 : Int32) (x3 : Int32) : Option (Int32 × am_M) :=
  (f_X4_isShelf M x1).bind (fun r2 => (if r2 = 0 then (f_X4_refuse M (-2 : Int32)).bind (fun r4 => some (r4.1, r4.2)) else (f_X4_isWithin M x2 (4 : Int32)).bind (fun r6 => (if r6 = 0 then (f_X4_refuse M (-2 : Int32)).bind (fun r8 => some (r8.1, r8.2)) else (f_X4_isWithin M x3 (40 : Int32)).bind (fun r10 => (if r10 = 0 then (f_X4_refuse M (-2 : Int32)).bind (fun r15 => some (r15.1, r15.2)) else if am_inb x1 8 = true then (f_X2_becomeRow M x1.toNatClampNeg x2 x3).bind (fun r13 => some ((1 : Int32), r13)) else none))))))
set_option maxHeartbeats 4000000 in
theorem w_X4_row {K : am_K} {d : Nat} {post : Option am_V → am_M → Prop} {M : am_M} {x1 : Int32} {x2 : Int32} {x3 : Int32} {y : Int32 × am_M} (h : f_X4_row M x1 x2 x3 = some y) (hp : post (some (.inl y.1)) y.2) : am_W K (d + 2) m_X4_row 0 [(0, .inr (.inr (4, 0, 0))), (1, .inl x1), (2, .inl x2), (3, .inl x3)] [] M post := by
  unfold f_X4_row at h
  refine am_iload_n dX4_row_0 rfl ?_
  obtain ⟨r2, c1, h⟩ := am_bnd h
  refine am_callSi (as := [.inl x1]) dX4_row_1 cs_RX4_50 cb_X4_isShelf rfl rfl (Nat.le_of_ble_eq_true rfl) (c_X4_isShelf c1) ?_
  refine am_if_eq 24 dX4_row_4 rfl (fun b18 => ?_) (fun b18 => ?_)
  · replace h := am_ifT b18 h
    refine am_aload_n dX4_row_24 rfl ?_
    refine am_bipush dX4_row_25 bp_m2 ?_
    obtain ⟨r4, c3, h⟩ := am_bnd h
    refine am_callVi (as := [.inl (-2 : Int32)]) dX4_row_27 cv_RX4_58 cb_X4_refuse sh_4 rfl hk_4 rfl rfl (Nat.le_of_ble_eq_true rfl) (c_X4_refuse c3) ?_
    obtain rfl := Option.some.inj h
    exact am_ireturn dX4_row_30 rfl rfl hp
  · replace h := am_ifF b18 h
    refine am_iload_n dX4_row_7 rfl ?_
    refine am_iconst dX4_row_8 ic_4 ?_
    obtain ⟨r6, c5, h⟩ := am_bnd h
    refine am_callSi (as := [.inl x2, .inl (4 : Int32)]) dX4_row_9 cs_RX4_54 cb_X4_isWithin rfl rfl (Nat.le_of_ble_eq_true rfl) (c_X4_isWithin c5) ?_
    refine am_if_eq 24 dX4_row_12 rfl (fun b17 => ?_) (fun b17 => ?_)
    · replace h := am_ifT b17 h
      refine am_aload_n dX4_row_24 rfl ?_
      refine am_bipush dX4_row_25 bp_m2 ?_
      obtain ⟨r8, c7, h⟩ := am_bnd h
      refine am_callVi (as := [.inl (-2 : Int32)]) dX4_row_27 cv_RX4_58 cb_X4_refuse sh_4 rfl hk_4 rfl rfl (Nat.le_of_ble_eq_true rfl) (c_X4_refuse c7) ?_
      obtain rfl := Option.some.inj h
      exact am_ireturn dX4_row_30 rfl rfl hp
    · replace h := am_ifF b17 h
      refine am_iload_n dX4_row_15 rfl ?_
      refine am_bipush dX4_row_16 bp_40 ?_
      obtain ⟨r10, c9, h⟩ := am_bnd h
      refine am_callSi (as := [.inl x3, .inl (40 : Int32)]) dX4_row_18 cs_RX4_54 cb_X4_isWithin rfl rfl (Nat.le_of_ble_eq_true rfl) (c_X4_isWithin c9) ?_
      refine am_if_ne 31 dX4_row_21 rfl (fun b16 => ?_) (fun b16 => ?_)
      · replace h := am_ifF b16 h
        refine am_aload_n dX4_row_31 rfl ?_
        refine am_getR (o' := 0) dX4_row_32 fl_RX4_38 sh_4 rfl rfl hk_4 ?_
        refine am_iload_n dX4_row_35 rfl ?_
        obtain ⟨g11, h⟩ := am_grd h
        refine am_aaload dX4_row_36 sh_505 rfl rfl hk_505 (am_inbE g11) ?_
        refine am_top (w := .inr (.inr (2, x1.toNatClampNeg, 0))) rfl ?_
        refine am_iload_n dX4_row_37 rfl ?_
        refine am_iload_n dX4_row_38 rfl ?_
        obtain ⟨r13, c12, h⟩ := am_bnd h
        refine am_callVv (as := [.inl x2, .inl x3]) dX4_row_39 cv_RX4_62 cb_X2_becomeRow sh_2 rfl hk_2 rfl rfl (Nat.le_of_ble_eq_true rfl) (c_X2_becomeRow c12) ?_
        refine am_iconst dX4_row_42 ic_1 ?_
        obtain rfl := Option.some.inj h
        exact am_ireturn dX4_row_43 rfl rfl hp
      · replace h := am_ifT b16 h
        refine am_aload_n dX4_row_24 rfl ?_
        refine am_bipush dX4_row_25 bp_m2 ?_
        obtain ⟨r15, c14, h⟩ := am_bnd h
        refine am_callVi (as := [.inl (-2 : Int32)]) dX4_row_27 cv_RX4_58 cb_X4_refuse sh_4 rfl hk_4 rfl rfl (Nat.le_of_ble_eq_true rfl) (c_X4_refuse c14) ?_
        obtain rfl := Option.some.inj h
        exact am_ireturn dX4_row_30 rfl rfl hp
theorem c_X4_row {K : am_K} {d : Nat} {M : am_M} {x1 : Int32} {x2 : Int32} {x3 : Int32} {y : Int32 × am_M} (h : f_X4_row M x1 x2 x3 = some y) : am_Met K (d + 2) m_X4_row [.inr (.inr (4, 0, 0)), .inl x1, .inl x2, .inl x3] M (fun q N => q = some (.inl y.1) ∧ N = y.2) :=
  am_Met_of cb_X4_row (Nat.le_of_ble_eq_true rfl) (w_X4_row h ⟨rfl, rfl⟩)
def f_X4_againstRows (M : am_M) (x1 : Int32) (x2 : Int32) : Option (Int32) :=
  (f_X4_isShelf M x1).bind (fun r2 => (if r2 = 0 then some (-2 : Int32) else (f_X4_isShelf M x2).bind (fun r4 => (if r4 = 0 then some (-2 : Int32) else if am_inb x1 8 = true then (f_X2_isDrawing M x1.toNatClampNeg).bind (fun r7 => (if r7 = 0 then if am_inb x2 8 = true then (f_X2_isDrawing M x2.toNatClampNeg).bind (fun r10 => (if r10 = 0 then if am_inb x1 8 = true then (f_X2_isEmpty M x1.toNatClampNeg).bind (fun r13 => (if r13 = 0 then if am_inb x2 8 = true then (f_X2_isEmpty M x2.toNatClampNeg).bind (fun r16 => (if r16 = 0 then some (0 : Int32) else some (-4 : Int32))) else none else some (-4 : Int32))) else none else some (-3 : Int32))) else none else some (-3 : Int32))) else none))))
set_option maxHeartbeats 4000000 in
theorem w_X4_againstRows {K : am_K} {d : Nat} {post : Option am_V → am_M → Prop} {M : am_M} {x1 : Int32} {x2 : Int32} {y : Int32} (h : f_X4_againstRows M x1 x2 = some y) (hp : post (some (.inl y)) M) : am_W K (d + 2) m_X4_againstRows 0 [(0, .inr (.inr (4, 0, 0))), (1, .inl x1), (2, .inl x2)] [] M post := by
  unfold f_X4_againstRows at h
  refine am_iload_n dX4_againstRows_0 rfl ?_
  obtain ⟨r2, c1, h⟩ := am_bnd h
  refine am_callSi (as := [.inl x1]) dX4_againstRows_1 cs_RX4_50 cb_X4_isShelf rfl rfl (Nat.le_of_ble_eq_true rfl) (c_X4_isShelf c1) ?_
  refine am_if_eq 14 dX4_againstRows_4 rfl (fun b22 => ?_) (fun b22 => ?_)
  · replace h := am_ifT b22 h
    refine am_bipush dX4_againstRows_14 bp_m2 ?_
    obtain rfl := Option.some.inj h
    exact am_ireturn dX4_againstRows_16 rfl rfl hp
  · replace h := am_ifF b22 h
    refine am_iload_n dX4_againstRows_7 rfl ?_
    obtain ⟨r4, c3, h⟩ := am_bnd h
    refine am_callSi (as := [.inl x2]) dX4_againstRows_8 cs_RX4_50 cb_X4_isShelf rfl rfl (Nat.le_of_ble_eq_true rfl) (c_X4_isShelf c3) ?_
    refine am_if_ne 17 dX4_againstRows_11 rfl (fun b21 => ?_) (fun b21 => ?_)
    · replace h := am_ifF b21 h
      refine am_aload_n dX4_againstRows_17 rfl ?_
      refine am_getR (o' := 0) dX4_againstRows_18 fl_RX4_38 sh_4 rfl rfl hk_4 ?_
      refine am_iload_n dX4_againstRows_21 rfl ?_
      obtain ⟨g5, h⟩ := am_grd h
      refine am_aaload dX4_againstRows_22 sh_505 rfl rfl hk_505 (am_inbE g5) ?_
      refine am_top (w := .inr (.inr (2, x1.toNatClampNeg, 0))) rfl ?_
      obtain ⟨r7, c6, h⟩ := am_bnd h
      refine am_callVi (as := []) dX4_againstRows_23 cv_RX4_104 cb_X2_isDrawing sh_2 rfl hk_2 rfl rfl (Nat.le_of_ble_eq_true rfl) (c_X2_isDrawing c6) ?_
      refine am_if_ne 41 dX4_againstRows_26 rfl (fun b20 => ?_) (fun b20 => ?_)
      · replace h := am_ifF b20 h
        refine am_bipush dX4_againstRows_41 bp_m3 ?_
        obtain rfl := Option.some.inj h
        exact am_ireturn dX4_againstRows_43 rfl rfl hp
      · replace h := am_ifT b20 h
        refine am_aload_n dX4_againstRows_29 rfl ?_
        refine am_getR (o' := 0) dX4_againstRows_30 fl_RX4_38 sh_4 rfl rfl hk_4 ?_
        refine am_iload_n dX4_againstRows_33 rfl ?_
        obtain ⟨g8, h⟩ := am_grd h
        refine am_aaload dX4_againstRows_34 sh_505 rfl rfl hk_505 (am_inbE g8) ?_
        refine am_top (w := .inr (.inr (2, x2.toNatClampNeg, 0))) rfl ?_
        obtain ⟨r10, c9, h⟩ := am_bnd h
        refine am_callVi (as := []) dX4_againstRows_35 cv_RX4_104 cb_X2_isDrawing sh_2 rfl hk_2 rfl rfl (Nat.le_of_ble_eq_true rfl) (c_X2_isDrawing c9) ?_
        refine am_if_eq 44 dX4_againstRows_38 rfl (fun b19 => ?_) (fun b19 => ?_)
        · replace h := am_ifT b19 h
          refine am_aload_n dX4_againstRows_44 rfl ?_
          refine am_getR (o' := 0) dX4_againstRows_45 fl_RX4_38 sh_4 rfl rfl hk_4 ?_
          refine am_iload_n dX4_againstRows_48 rfl ?_
          obtain ⟨g11, h⟩ := am_grd h
          refine am_aaload dX4_againstRows_49 sh_505 rfl rfl hk_505 (am_inbE g11) ?_
          refine am_top (w := .inr (.inr (2, x1.toNatClampNeg, 0))) rfl ?_
          obtain ⟨r13, c12, h⟩ := am_bnd h
          refine am_callVi (as := []) dX4_againstRows_50 cv_RX4_101 cb_X2_isEmpty sh_2 rfl hk_2 rfl rfl (Nat.le_of_ble_eq_true rfl) (c_X2_isEmpty c12) ?_
          refine am_if_ne 68 dX4_againstRows_53 rfl (fun b18 => ?_) (fun b18 => ?_)
          · replace h := am_ifF b18 h
            refine am_bipush dX4_againstRows_68 bp_m4 ?_
            refine am_goto 74 dX4_againstRows_70 rfl ?_
            obtain rfl := Option.some.inj h
            exact am_ireturn dX4_againstRows_74 rfl rfl hp
          · replace h := am_ifT b18 h
            refine am_aload_n dX4_againstRows_56 rfl ?_
            refine am_getR (o' := 0) dX4_againstRows_57 fl_RX4_38 sh_4 rfl rfl hk_4 ?_
            refine am_iload_n dX4_againstRows_60 rfl ?_
            obtain ⟨g14, h⟩ := am_grd h
            refine am_aaload dX4_againstRows_61 sh_505 rfl rfl hk_505 (am_inbE g14) ?_
            refine am_top (w := .inr (.inr (2, x2.toNatClampNeg, 0))) rfl ?_
            obtain ⟨r16, c15, h⟩ := am_bnd h
            refine am_callVi (as := []) dX4_againstRows_62 cv_RX4_101 cb_X2_isEmpty sh_2 rfl hk_2 rfl rfl (Nat.le_of_ble_eq_true rfl) (c_X2_isEmpty c15) ?_
            refine am_if_eq 73 dX4_againstRows_65 rfl (fun b17 => ?_) (fun b17 => ?_)
            · replace h := am_ifT b17 h
              refine am_iconst dX4_againstRows_73 ic_0 ?_
              obtain rfl := Option.some.inj h
              exact am_ireturn dX4_againstRows_74 rfl rfl hp
            · replace h := am_ifF b17 h
              refine am_bipush dX4_againstRows_68 bp_m4 ?_
              refine am_goto 74 dX4_againstRows_70 rfl ?_
              obtain rfl := Option.some.inj h
              exact am_ireturn dX4_againstRows_74 rfl rfl hp
        · replace h := am_ifF b19 h
          refine am_bipush dX4_againstRows_41 bp_m3 ?_
          obtain rfl := Option.some.inj h
          exact am_ireturn dX4_againstRows_43 rfl rfl hp
    · replace h := am_ifT b21 h
      refine am_bipush dX4_againstRows_14 bp_m2 ?_
      obtain rfl := Option.some.inj h
      exact am_ireturn dX4_againstRows_16 rfl rfl hp
theorem c_X4_againstRows {K : am_K} {d : Nat} {M : am_M} {x1 : Int32} {x2 : Int32} {y : Int32} (h : f_X4_againstRows M x1 x2 = some y) : am_Met K (d + 2) m_X4_againstRows [.inr (.inr (4, 0, 0)), .inl x1, .inl x2] M (fun q N => q = some (.inl y) ∧ N = M) :=
  am_Met_of cb_X4_againstRows (Nat.le_of_ble_eq_true rfl) (w_X4_againstRows h ⟨rfl, rfl⟩)
def f_X4_set (M : am_M) (x1 : Int32) (x2 : Int32) (x3 : Int64) : Option (Int32 × am_M) :=
  (f_X4_againstRows M x1 x1).bind (fun r2 => (if r2 = 0 then if am_inb x1 8 = true then (f_X2_hasElement M x1.toNatClampNeg x2).bind (fun r5 => (if r5 = 0 then (f_X4_refuse M (-2 : Int32)).bind (fun r10 => some (r10.1, r10.2)) else if am_inb x1 8 = true then (f_X2_put M x1.toNatClampNeg x2 x3).bind (fun r8 => some ((1 : Int32), r8)) else none)) else none else (f_X4_refuse M r2).bind (fun r13 => some (r13.1, r13.2))))
set_option maxHeartbeats 4000000 in
theorem w_X4_set {K : am_K} {d : Nat} {post : Option am_V → am_M → Prop} {M : am_M} {x1 : Int32} {x2 : Int32} {x3 : Int64} {y : Int32 × am_M} (h : f_X4_set M x1 x2 x3 = some y) (hp : post (some (.inl y.1)) y.2) : am_W K (d + 3) m_X4_set 0 [(0, .inr (.inr (4, 0, 0))), (1, .inl x1), (2, .inl x2), (3, .inr (.inl x3))] [] M post := by
  unfold f_X4_set at h
  refine am_aload_n dX4_set_0 rfl ?_
  refine am_iload_n dX4_set_1 rfl ?_
  refine am_iload_n dX4_set_2 rfl ?_
  obtain ⟨r2, c1, h⟩ := am_bnd h
  refine am_callVi (as := [.inl x1, .inl x1]) dX4_set_3 cv_RX4_66 cb_X4_againstRows sh_4 rfl hk_4 rfl rfl (Nat.le_of_ble_eq_true rfl) (c_X4_againstRows c1) ?_
  refine am_istore (ls' := [(0, .inr (.inr (4, 0, 0))), (1, .inl x1), (2, .inl x2), (3, .inr (.inl x3)), (5, .inl r2)]) dX4_set_6 (Nat.le_of_ble_eq_true rfl) rfl ?_
  refine am_iload dX4_set_8 rfl ?_
  refine am_if_eq 20 dX4_set_10 rfl (fun b14 => ?_) (fun b14 => ?_)
  · replace h := am_ifT b14 h
    refine am_aload_n dX4_set_20 rfl ?_
    refine am_getR (o' := 0) dX4_set_21 fl_RX4_38 sh_4 rfl rfl hk_4 ?_
    refine am_iload_n dX4_set_24 rfl ?_
    obtain ⟨g3, h⟩ := am_grd h
    refine am_aaload dX4_set_25 sh_505 rfl rfl hk_505 (am_inbE g3) ?_
    refine am_top (w := .inr (.inr (2, x1.toNatClampNeg, 0))) rfl ?_
    refine am_iload_n dX4_set_26 rfl ?_
    obtain ⟨r5, c4, h⟩ := am_bnd h
    refine am_callVi (as := [.inl x2]) dX4_set_27 cv_RX4_70 cb_X2_hasElement sh_2 rfl hk_2 rfl rfl (Nat.le_of_ble_eq_true rfl) (c_X2_hasElement c4) ?_
    refine am_if_ne 40 dX4_set_30 rfl (fun b11 => ?_) (fun b11 => ?_)
    · replace h := am_ifF b11 h
      refine am_aload_n dX4_set_40 rfl ?_
      refine am_getR (o' := 0) dX4_set_41 fl_RX4_38 sh_4 rfl rfl hk_4 ?_
      refine am_iload_n dX4_set_44 rfl ?_
      obtain ⟨g6, h⟩ := am_grd h
      refine am_aaload dX4_set_45 sh_505 rfl rfl hk_505 (am_inbE g6) ?_
      refine am_top (w := .inr (.inr (2, x1.toNatClampNeg, 0))) rfl ?_
      refine am_iload_n dX4_set_46 rfl ?_
      refine am_lload_n dX4_set_47 rfl ?_
      obtain ⟨r8, c7, h⟩ := am_bnd h
      refine am_callVv (as := [.inl x2, .inr (.inl x3)]) dX4_set_48 cv_RX4_73 cb_X2_put sh_2 rfl hk_2 rfl rfl (Nat.le_of_ble_eq_true rfl) (c_X2_put c7) ?_
      refine am_iconst dX4_set_51 ic_1 ?_
      obtain rfl := Option.some.inj h
      exact am_ireturn dX4_set_52 rfl rfl hp
    · replace h := am_ifT b11 h
      refine am_aload_n dX4_set_33 rfl ?_
      refine am_bipush dX4_set_34 bp_m2 ?_
      obtain ⟨r10, c9, h⟩ := am_bnd h
      refine am_callVi (as := [.inl (-2 : Int32)]) dX4_set_36 cv_RX4_58 cb_X4_refuse sh_4 rfl hk_4 rfl rfl (Nat.le_of_ble_eq_true rfl) (c_X4_refuse c9) ?_
      obtain rfl := Option.some.inj h
      exact am_ireturn dX4_set_39 rfl rfl hp
  · replace h := am_ifF b14 h
    refine am_aload_n dX4_set_13 rfl ?_
    refine am_iload dX4_set_14 rfl ?_
    obtain ⟨r13, c12, h⟩ := am_bnd h
    refine am_callVi (as := [.inl r2]) dX4_set_16 cv_RX4_58 cb_X4_refuse sh_4 rfl hk_4 rfl rfl (Nat.le_of_ble_eq_true rfl) (c_X4_refuse c12) ?_
    obtain rfl := Option.some.inj h
    exact am_ireturn dX4_set_19 rfl rfl hp
theorem c_X4_set {K : am_K} {d : Nat} {M : am_M} {x1 : Int32} {x2 : Int32} {x3 : Int64} {y : Int32 × am_M} (h : f_X4_set M x1 x2 x3 = some y) : am_Met K (d + 3) m_X4_set [.inr (.inr (4, 0, 0)), .inl x1, .inl x2, .inr (.inl x3)] M (fun q N => q = some (.inl y.1) ∧ N = y.2) :=
  am_Met_of cb_X4_set (Nat.le_of_ble_eq_true rfl) (w_X4_set h ⟨rfl, rfl⟩)
def f_X4_copy (M : am_M) (x1 : Int32) (x2 : Int32) (x3 : Int32) (x4 : Int32) (x5 : Int32) : Option (Int32 × am_M) :=
  (f_X4_againstRows M x1 x2).bind (fun r2 => ((if r2 = 0 then if am_inb x1 8 = true then if am_inb x2 8 = true then (if (M.1 2 x1.toNatClampNeg 0 0) = (M.1 2 x2.toNatClampNeg 0 0) then some r2 else some (-3 : Int32)) else none else none else some r2) : Option (Int32)).bind (fun z3 => (if z3 = 0 then if am_inb x1 8 = true then (f_X2_hasElements M x1.toNatClampNeg x3 x5).bind (fun r12 => (if r12 = 0 then (f_X4_refuse M (-2 : Int32)).bind (fun r14 => some (r14.1, r14.2)) else if am_inb x2 8 = true then (f_X2_hasElements M x2.toNatClampNeg x4 x5).bind (fun r17 => (if r17 = 0 then (f_X4_refuse M (-2 : Int32)).bind (fun r23 => some (r23.1, r23.2)) else if am_inb x1 8 = true then if am_inb x2 8 = true then if (¬ x3 < 0 ∧ ¬ x4 < 0 ∧ ¬ x5 < 0 ∧ x3.toNatClampNeg + x5.toNatClampNeg ≤ 40 ∧ x4.toNatClampNeg + x5.toNatClampNeg ≤ 40) then am_let (am_rl M 303 x2.toNatClampNeg 0 (va_cpy (fun j => M.2 303 x1.toNatClampNeg 0 j) (fun j => M.2 303 x2.toNatClampNeg 0 j) x3.toNatClampNeg x4.toNatClampNeg x5.toNatClampNeg)) (fun M21 => some (x5, M21)) else none else none else none)) else none)) else none else (f_X4_refuse M z3).bind (fun r27 => some (r27.1, r27.2)))))
set_option maxHeartbeats 4000000 in
theorem w_X4_copy {K : am_K} {d : Nat} {post : Option am_V → am_M → Prop} {M : am_M} {x1 : Int32} {x2 : Int32} {x3 : Int32} {x4 : Int32} {x5 : Int32} {y : Int32 × am_M} (h : f_X4_copy M x1 x2 x3 x4 x5 = some y) (hp : post (some (.inl y.1)) y.2) : am_W K (d + 3) m_X4_copy 0 [(0, .inr (.inr (4, 0, 0))), (1, .inl x1), (2, .inl x2), (3, .inl x3), (4, .inl x4), (5, .inl x5)] [] M post := by
  unfold f_X4_copy at h
  refine am_aload_n dX4_copy_0 rfl ?_
  refine am_iload_n dX4_copy_1 rfl ?_
  refine am_iload_n dX4_copy_2 rfl ?_
  obtain ⟨r2, c1, h⟩ := am_bnd h
  refine am_callVi (as := [.inl x1, .inl x2]) dX4_copy_3 cv_RX4_66 cb_X4_againstRows sh_4 rfl hk_4 rfl rfl (Nat.le_of_ble_eq_true rfl) (c_X4_againstRows c1) ?_
  refine am_istore (ls' := [(0, .inr (.inr (4, 0, 0))), (1, .inl x1), (2, .inl x2), (3, .inl x3), (4, .inl x4), (5, .inl x5), (6, .inl r2)]) dX4_copy_6 (Nat.le_of_ble_eq_true rfl) rfl ?_
  refine am_iload dX4_copy_8 rfl ?_
  obtain ⟨z3, h4, h⟩ := am_bnd h
  have KK5 : am_W K (d + 3) m_X4_copy 38 [(0, .inr (.inr (4, 0, 0))), (1, .inl x1), (2, .inl x2), (3, .inl x3), (4, .inl x4), (5, .inl x5), (6, .inl z3)] [] M post := by
    refine am_iload dX4_copy_38 rfl ?_
    refine am_if_eq 50 dX4_copy_40 rfl (fun b28 => ?_) (fun b28 => ?_)
    · replace h := am_ifT b28 h
      refine am_aload_n dX4_copy_50 rfl ?_
      refine am_getR (o' := 0) dX4_copy_51 fl_RX4_38 sh_4 rfl rfl hk_4 ?_
      refine am_iload_n dX4_copy_54 rfl ?_
      obtain ⟨g10, h⟩ := am_grd h
      refine am_aaload dX4_copy_55 sh_505 rfl rfl hk_505 (am_inbE g10) ?_
      refine am_top (w := .inr (.inr (2, x1.toNatClampNeg, 0))) rfl ?_
      refine am_iload_n dX4_copy_56 rfl ?_
      refine am_iload dX4_copy_57 rfl ?_
      obtain ⟨r12, c11, h⟩ := am_bnd h
      refine am_callVi (as := [.inl x3, .inl x5]) dX4_copy_59 cv_RX4_81 cb_X2_hasElements sh_2 rfl hk_2 rfl rfl (Nat.le_of_ble_eq_true rfl) (c_X2_hasElements c11) ?_
      refine am_if_eq 81 dX4_copy_62 rfl (fun b25 => ?_) (fun b25 => ?_)
      · replace h := am_ifT b25 h
        refine am_aload_n dX4_copy_81 rfl ?_
        refine am_bipush dX4_copy_82 bp_m2 ?_
        obtain ⟨r14, c13, h⟩ := am_bnd h
        refine am_callVi (as := [.inl (-2 : Int32)]) dX4_copy_84 cv_RX4_58 cb_X4_refuse sh_4 rfl hk_4 rfl rfl (Nat.le_of_ble_eq_true rfl) (c_X4_refuse c13) ?_
        obtain rfl := Option.some.inj h
        exact am_ireturn dX4_copy_87 rfl rfl hp
      · replace h := am_ifF b25 h
        refine am_aload_n dX4_copy_65 rfl ?_
        refine am_getR (o' := 0) dX4_copy_66 fl_RX4_38 sh_4 rfl rfl hk_4 ?_
        refine am_iload_n dX4_copy_69 rfl ?_
        obtain ⟨g15, h⟩ := am_grd h
        refine am_aaload dX4_copy_70 sh_505 rfl rfl hk_505 (am_inbE g15) ?_
        refine am_top (w := .inr (.inr (2, x2.toNatClampNeg, 0))) rfl ?_
        refine am_iload dX4_copy_71 rfl ?_
        refine am_iload dX4_copy_73 rfl ?_
        obtain ⟨r17, c16, h⟩ := am_bnd h
        refine am_callVi (as := [.inl x4, .inl x5]) dX4_copy_75 cv_RX4_81 cb_X2_hasElements sh_2 rfl hk_2 rfl rfl (Nat.le_of_ble_eq_true rfl) (c_X2_hasElements c16) ?_
        refine am_if_ne 88 dX4_copy_78 rfl (fun b24 => ?_) (fun b24 => ?_)
        · replace h := am_ifF b24 h
          refine am_aload_n dX4_copy_88 rfl ?_
          refine am_getR (o' := 0) dX4_copy_89 fl_RX4_38 sh_4 rfl rfl hk_4 ?_
          refine am_iload_n dX4_copy_92 rfl ?_
          obtain ⟨g18, h⟩ := am_grd h
          refine am_aaload dX4_copy_93 sh_505 rfl rfl hk_505 (am_inbE g18) ?_
          refine am_top (w := .inr (.inr (2, x1.toNatClampNeg, 0))) rfl ?_
          refine am_getR (o' := x1.toNatClampNeg) dX4_copy_94 fl_RX4_84 sh_2 rfl rfl hk_2 ?_
          refine am_iload_n dX4_copy_97 rfl ?_
          refine am_aload_n dX4_copy_98 rfl ?_
          refine am_getR (o' := 0) dX4_copy_99 fl_RX4_38 sh_4 rfl rfl hk_4 ?_
          refine am_iload_n dX4_copy_102 rfl ?_
          obtain ⟨g19, h⟩ := am_grd h
          refine am_aaload dX4_copy_103 sh_505 rfl rfl hk_505 (am_inbE g19) ?_
          refine am_top (w := .inr (.inr (2, x2.toNatClampNeg, 0))) rfl ?_
          refine am_getR (o' := x2.toNatClampNeg) dX4_copy_104 fl_RX4_84 sh_2 rfl rfl hk_2 ?_
          refine am_iload dX4_copy_107 rfl ?_
          refine am_iload dX4_copy_109 rfl ?_
          obtain ⟨g20, h⟩ := am_grd h
          obtain ⟨M21, eM21, h⟩ := am_letE h
          refine am_copyL dX4_copy_111 cc_RX4_88 sh_303 sh_303 hk_303 hk_303 g20.1 g20.2.1 g20.2.2.1 g20.2.2.2.1 g20.2.2.2.2 (Nat.le_of_ble_eq_true rfl) ?_
          refine am_mem eM21 ?_
          refine am_iload dX4_copy_114 rfl ?_
          obtain rfl := Option.some.inj h
          exact am_ireturn dX4_copy_116 rfl rfl hp
        · replace h := am_ifT b24 h
          refine am_aload_n dX4_copy_81 rfl ?_
          refine am_bipush dX4_copy_82 bp_m2 ?_
          obtain ⟨r23, c22, h⟩ := am_bnd h
          refine am_callVi (as := [.inl (-2 : Int32)]) dX4_copy_84 cv_RX4_58 cb_X4_refuse sh_4 rfl hk_4 rfl rfl (Nat.le_of_ble_eq_true rfl) (c_X4_refuse c22) ?_
          obtain rfl := Option.some.inj h
          exact am_ireturn dX4_copy_87 rfl rfl hp
    · replace h := am_ifF b28 h
      refine am_aload_n dX4_copy_43 rfl ?_
      refine am_iload dX4_copy_44 rfl ?_
      obtain ⟨r27, c26, h⟩ := am_bnd h
      refine am_callVi (as := [.inl z3]) dX4_copy_46 cv_RX4_58 cb_X4_refuse sh_4 rfl hk_4 rfl rfl (Nat.le_of_ble_eq_true rfl) (c_X4_refuse c26) ?_
      obtain rfl := Option.some.inj h
      exact am_ireturn dX4_copy_49 rfl rfl hp
  clear h
  refine am_if_ne 38 dX4_copy_10 rfl (fun b9 => ?_) (fun b9 => ?_)
  · replace h4 := am_ifF b9 h4
    obtain rfl := Option.some.inj h4
    exact am_drop [0, 1, 2, 3, 4, 5, 6] rfl KK5
  · replace h4 := am_ifT b9 h4
    refine am_aload_n dX4_copy_13 rfl ?_
    refine am_getR (o' := 0) dX4_copy_14 fl_RX4_38 sh_4 rfl rfl hk_4 ?_
    refine am_iload_n dX4_copy_17 rfl ?_
    obtain ⟨g6, h4⟩ := am_grd h4
    refine am_aaload dX4_copy_18 sh_505 rfl rfl hk_505 (am_inbE g6) ?_
    refine am_top (w := .inr (.inr (2, x1.toNatClampNeg, 0))) rfl ?_
    refine am_getI dX4_copy_19 fl_RX4_77 sh_2 rfl hk_2 ?_
    refine am_aload_n dX4_copy_22 rfl ?_
    refine am_getR (o' := 0) dX4_copy_23 fl_RX4_38 sh_4 rfl rfl hk_4 ?_
    refine am_iload_n dX4_copy_26 rfl ?_
    obtain ⟨g7, h4⟩ := am_grd h4
    refine am_aaload dX4_copy_27 sh_505 rfl rfl hk_505 (am_inbE g7) ?_
    refine am_top (w := .inr (.inr (2, x2.toNatClampNeg, 0))) rfl ?_
    refine am_getI dX4_copy_28 fl_RX4_77 sh_2 rfl hk_2 ?_
    refine am_icmp_eq 38 dX4_copy_31 rfl (fun b8 => ?_) (fun b8 => ?_)
    · replace h4 := am_ifT b8 h4
      obtain rfl := Option.some.inj h4
      exact am_drop [0, 1, 2, 3, 4, 5, 6] rfl KK5
    · replace h4 := am_ifF b8 h4
      refine am_bipush dX4_copy_34 bp_m3 ?_
      refine am_istore (ls' := [(0, .inr (.inr (4, 0, 0))), (1, .inl x1), (2, .inl x2), (3, .inl x3), (4, .inl x4), (5, .inl x5), (6, .inl (-3 : Int32))]) dX4_copy_36 (Nat.le_of_ble_eq_true rfl) rfl ?_
      obtain rfl := Option.some.inj h4
      exact am_drop [0, 1, 2, 3, 4, 5, 6] rfl KK5
theorem c_X4_copy {K : am_K} {d : Nat} {M : am_M} {x1 : Int32} {x2 : Int32} {x3 : Int32} {x4 : Int32} {x5 : Int32} {y : Int32 × am_M} (h : f_X4_copy M x1 x2 x3 x4 x5 = some y) : am_Met K (d + 3) m_X4_copy [.inr (.inr (4, 0, 0)), .inl x1, .inl x2, .inl x3, .inl x4, .inl x5] M (fun q N => q = some (.inl y.1) ∧ N = y.2) :=
  am_Met_of cb_X4_copy (Nat.le_of_ble_eq_true rfl) (w_X4_copy h ⟨rfl, rfl⟩)
def f_X4_element (M : am_M) (x1 : Int32) (x2 : Int32) : Option (Int64) :=
  (f_X4_isShelf M x1).bind (fun r2 => (if r2 = 0 then some (0 : Int64) else if am_inb x1 8 = true then (f_X2_isRow M x1.toNatClampNeg).bind (fun r5 => (if r5 = 0 then some (0 : Int64) else if am_inb x1 8 = true then (f_X2_hasElement M x1.toNatClampNeg x2).bind (fun r8 => (if r8 = 0 then some (0 : Int64) else if am_inb x1 8 = true then if am_inb x2 40 = true then some (M.2 303 x1.toNatClampNeg 0 x2.toNatClampNeg) else none else none)) else none)) else none))
set_option maxHeartbeats 4000000 in
theorem w_X4_element {K : am_K} {d : Nat} {post : Option am_V → am_M → Prop} {M : am_M} {x1 : Int32} {x2 : Int32} {y : Int64} (h : f_X4_element M x1 x2 = some y) (hp : post (some (.inr (.inl y))) M) : am_W K (d + 2) m_X4_element 0 [(0, .inr (.inr (4, 0, 0))), (1, .inl x1), (2, .inl x2)] [] M post := by
  unfold f_X4_element at h
  refine am_iload_n dX4_element_0 rfl ?_
  obtain ⟨r2, c1, h⟩ := am_bnd h
  refine am_callSi (as := [.inl x1]) dX4_element_1 cs_RX4_50 cb_X4_isShelf rfl rfl (Nat.le_of_ble_eq_true rfl) (c_X4_isShelf c1) ?_
  refine am_if_eq 32 dX4_element_4 rfl (fun b13 => ?_) (fun b13 => ?_)
  · replace h := am_ifT b13 h
    refine am_lconst dX4_element_32 lc_0 ?_
    obtain rfl := Option.some.inj h
    exact am_lreturn dX4_element_33 rfl hp
  · replace h := am_ifF b13 h
    refine am_aload_n dX4_element_7 rfl ?_
    refine am_getR (o' := 0) dX4_element_8 fl_RX4_38 sh_4 rfl rfl hk_4 ?_
    refine am_iload_n dX4_element_11 rfl ?_
    obtain ⟨g3, h⟩ := am_grd h
    refine am_aaload dX4_element_12 sh_505 rfl rfl hk_505 (am_inbE g3) ?_
    refine am_top (w := .inr (.inr (2, x1.toNatClampNeg, 0))) rfl ?_
    obtain ⟨r5, c4, h⟩ := am_bnd h
    refine am_callVi (as := []) dX4_element_13 cv_RX4_94 cb_X2_isRow sh_2 rfl hk_2 rfl rfl (Nat.le_of_ble_eq_true rfl) (c_X2_isRow c4) ?_
    refine am_if_eq 32 dX4_element_16 rfl (fun b12 => ?_) (fun b12 => ?_)
    · replace h := am_ifT b12 h
      refine am_lconst dX4_element_32 lc_0 ?_
      obtain rfl := Option.some.inj h
      exact am_lreturn dX4_element_33 rfl hp
    · replace h := am_ifF b12 h
      refine am_aload_n dX4_element_19 rfl ?_
      refine am_getR (o' := 0) dX4_element_20 fl_RX4_38 sh_4 rfl rfl hk_4 ?_
      refine am_iload_n dX4_element_23 rfl ?_
      obtain ⟨g6, h⟩ := am_grd h
      refine am_aaload dX4_element_24 sh_505 rfl rfl hk_505 (am_inbE g6) ?_
      refine am_top (w := .inr (.inr (2, x1.toNatClampNeg, 0))) rfl ?_
      refine am_iload_n dX4_element_25 rfl ?_
      obtain ⟨r8, c7, h⟩ := am_bnd h
      refine am_callVi (as := [.inl x2]) dX4_element_26 cv_RX4_70 cb_X2_hasElement sh_2 rfl hk_2 rfl rfl (Nat.le_of_ble_eq_true rfl) (c_X2_hasElement c7) ?_
      refine am_if_ne 34 dX4_element_29 rfl (fun b11 => ?_) (fun b11 => ?_)
      · replace h := am_ifF b11 h
        refine am_aload_n dX4_element_34 rfl ?_
        refine am_getR (o' := 0) dX4_element_35 fl_RX4_38 sh_4 rfl rfl hk_4 ?_
        refine am_iload_n dX4_element_38 rfl ?_
        obtain ⟨g9, h⟩ := am_grd h
        refine am_aaload dX4_element_39 sh_505 rfl rfl hk_505 (am_inbE g9) ?_
        refine am_top (w := .inr (.inr (2, x1.toNatClampNeg, 0))) rfl ?_
        refine am_getR (o' := x1.toNatClampNeg) dX4_element_40 fl_RX4_84 sh_2 rfl rfl hk_2 ?_
        refine am_iload_n dX4_element_43 rfl ?_
        obtain ⟨g10, h⟩ := am_grd h
        refine am_laload dX4_element_44 sh_303 hk_303 (am_inbE g10) ?_
        obtain rfl := Option.some.inj h
        exact am_lreturn dX4_element_45 rfl hp
      · replace h := am_ifT b11 h
        refine am_lconst dX4_element_32 lc_0 ?_
        obtain rfl := Option.some.inj h
        exact am_lreturn dX4_element_33 rfl hp
theorem c_X4_element {K : am_K} {d : Nat} {M : am_M} {x1 : Int32} {x2 : Int32} {y : Int64} (h : f_X4_element M x1 x2 = some y) : am_Met K (d + 2) m_X4_element [.inr (.inr (4, 0, 0)), .inl x1, .inl x2] M (fun q N => q = some (.inr (.inl y)) ∧ N = M) :=
  am_Met_of cb_X4_element (Nat.le_of_ble_eq_true rfl) (w_X4_element h ⟨rfl, rfl⟩)
def f_X4_holds (M : am_M) (x1 : Int32) : Option (Int32) :=
  (f_X4_isShelf M x1).bind (fun r2 => (if r2 = 0 then some (-1 : Int32) else if am_inb x1 8 = true then some (M.1 2 x1.toNatClampNeg 0 0) else none))
set_option maxHeartbeats 4000000 in
theorem w_X4_holds {K : am_K} {d : Nat} {post : Option am_V → am_M → Prop} {M : am_M} {x1 : Int32} {y : Int32} (h : f_X4_holds M x1 = some y) (hp : post (some (.inl y)) M) : am_W K (d + 2) m_X4_holds 0 [(0, .inr (.inr (4, 0, 0))), (1, .inl x1)] [] M post := by
  unfold f_X4_holds at h
  refine am_iload_n dX4_holds_0 rfl ?_
  obtain ⟨r2, c1, h⟩ := am_bnd h
  refine am_callSi (as := [.inl x1]) dX4_holds_1 cs_RX4_50 cb_X4_isShelf rfl rfl (Nat.le_of_ble_eq_true rfl) (c_X4_isShelf c1) ?_
  refine am_if_eq 19 dX4_holds_4 rfl (fun b4 => ?_) (fun b4 => ?_)
  · replace h := am_ifT b4 h
    refine am_iconst dX4_holds_19 ic_m1 ?_
    obtain rfl := Option.some.inj h
    exact am_ireturn dX4_holds_20 rfl rfl hp
  · replace h := am_ifF b4 h
    refine am_aload_n dX4_holds_7 rfl ?_
    refine am_getR (o' := 0) dX4_holds_8 fl_RX4_38 sh_4 rfl rfl hk_4 ?_
    refine am_iload_n dX4_holds_11 rfl ?_
    obtain ⟨g3, h⟩ := am_grd h
    refine am_aaload dX4_holds_12 sh_505 rfl rfl hk_505 (am_inbE g3) ?_
    refine am_top (w := .inr (.inr (2, x1.toNatClampNeg, 0))) rfl ?_
    refine am_getI dX4_holds_13 fl_RX4_77 sh_2 rfl hk_2 ?_
    refine am_goto 20 dX4_holds_16 rfl ?_
    obtain rfl := Option.some.inj h
    exact am_ireturn dX4_holds_20 rfl rfl hp
theorem c_X4_holds {K : am_K} {d : Nat} {M : am_M} {x1 : Int32} {y : Int32} (h : f_X4_holds M x1 = some y) : am_Met K (d + 2) m_X4_holds [.inr (.inr (4, 0, 0)), .inl x1] M (fun q N => q = some (.inl y) ∧ N = M) :=
  am_Met_of cb_X4_holds (Nat.le_of_ble_eq_true rfl) (w_X4_holds h ⟨rfl, rfl⟩)
def f_X4_drawing (M : am_M) (x1 : Int32) (x2 : Int32) (x3 : Int32) : Option (Int32 × am_M) :=
  (f_X4_isShelf M x1).bind (fun r2 => (if r2 = 0 then (f_X4_refuse M (-2 : Int32)).bind (fun r4 => some (r4.1, r4.2)) else (f_X4_isWithin M x2 (6 : Int32)).bind (fun r6 => (if r6 = 0 then (f_X4_refuse M (-2 : Int32)).bind (fun r8 => some (r8.1, r8.2)) else (if x2 < (1 : Int32) then (f_X4_refuse M (-2 : Int32)).bind (fun r10 => some (r10.1, r10.2)) else (f_X4_isWithin M x3 (9 : Int32)).bind (fun r12 => (if r12 = 0 then (f_X4_refuse M (-2 : Int32)).bind (fun r17 => some (r17.1, r17.2)) else if am_inb x1 8 = true then (f_X2_becomeDrawing M x1.toNatClampNeg x2 x3).bind (fun r15 => some ((1 : Int32), r15)) else none)))))))
set_option maxHeartbeats 4000000 in
theorem w_X4_drawing {K : am_K} {d : Nat} {post : Option am_V → am_M → Prop} {M : am_M} {x1 : Int32} {x2 : Int32} {x3 : Int32} {y : Int32 × am_M} (h : f_X4_drawing M x1 x2 x3 = some y) (hp : post (some (.inl y.1)) y.2) : am_W K (d + 2) m_X4_drawing 0 [(0, .inr (.inr (4, 0, 0))), (1, .inl x1), (2, .inl x2), (3, .inl x3)] [] M post := by
  unfold f_X4_drawing at h
  refine am_iload_n dX4_drawing_0 rfl ?_
  obtain ⟨r2, c1, h⟩ := am_bnd h
  refine am_callSi (as := [.inl x1]) dX4_drawing_1 cs_RX4_50 cb_X4_isShelf rfl rfl (Nat.le_of_ble_eq_true rfl) (c_X4_isShelf c1) ?_
  refine am_if_eq 30 dX4_drawing_4 rfl (fun b21 => ?_) (fun b21 => ?_)
  · replace h := am_ifT b21 h
    refine am_aload_n dX4_drawing_30 rfl ?_
    refine am_bipush dX4_drawing_31 bp_m2 ?_
    obtain ⟨r4, c3, h⟩ := am_bnd h
    refine am_callVi (as := [.inl (-2 : Int32)]) dX4_drawing_33 cv_RX4_58 cb_X4_refuse sh_4 rfl hk_4 rfl rfl (Nat.le_of_ble_eq_true rfl) (c_X4_refuse c3) ?_
    obtain rfl := Option.some.inj h
    exact am_ireturn dX4_drawing_36 rfl rfl hp
  · replace h := am_ifF b21 h
    refine am_iload_n dX4_drawing_7 rfl ?_
    refine am_bipush dX4_drawing_8 bp_6 ?_
    obtain ⟨r6, c5, h⟩ := am_bnd h
    refine am_callSi (as := [.inl x2, .inl (6 : Int32)]) dX4_drawing_10 cs_RX4_54 cb_X4_isWithin rfl rfl (Nat.le_of_ble_eq_true rfl) (c_X4_isWithin c5) ?_
    refine am_if_eq 30 dX4_drawing_13 rfl (fun b20 => ?_) (fun b20 => ?_)
    · replace h := am_ifT b20 h
      refine am_aload_n dX4_drawing_30 rfl ?_
      refine am_bipush dX4_drawing_31 bp_m2 ?_
      obtain ⟨r8, c7, h⟩ := am_bnd h
      refine am_callVi (as := [.inl (-2 : Int32)]) dX4_drawing_33 cv_RX4_58 cb_X4_refuse sh_4 rfl hk_4 rfl rfl (Nat.le_of_ble_eq_true rfl) (c_X4_refuse c7) ?_
      obtain rfl := Option.some.inj h
      exact am_ireturn dX4_drawing_36 rfl rfl hp
    · replace h := am_ifF b20 h
      refine am_iload_n dX4_drawing_16 rfl ?_
      refine am_iconst dX4_drawing_17 ic_1 ?_
      refine am_icmp_lt 30 dX4_drawing_18 rfl (fun b19 => ?_) (fun b19 => ?_)
      · replace h := am_ifT b19 h
        refine am_aload_n dX4_drawing_30 rfl ?_
        refine am_bipush dX4_drawing_31 bp_m2 ?_
        obtain ⟨r10, c9, h⟩ := am_bnd h
        refine am_callVi (as := [.inl (-2 : Int32)]) dX4_drawing_33 cv_RX4_58 cb_X4_refuse sh_4 rfl hk_4 rfl rfl (Nat.le_of_ble_eq_true rfl) (c_X4_refuse c9) ?_
        obtain rfl := Option.some.inj h
        exact am_ireturn dX4_drawing_36 rfl rfl hp
      · replace h := am_ifF b19 h
        refine am_iload_n dX4_drawing_21 rfl ?_
        refine am_bipush dX4_drawing_22 bp_9 ?_
        obtain ⟨r12, c11, h⟩ := am_bnd h
        refine am_callSi (as := [.inl x3, .inl (9 : Int32)]) dX4_drawing_24 cs_RX4_54 cb_X4_isWithin rfl rfl (Nat.le_of_ble_eq_true rfl) (c_X4_isWithin c11) ?_
        refine am_if_ne 37 dX4_drawing_27 rfl (fun b18 => ?_) (fun b18 => ?_)
        · replace h := am_ifF b18 h
          refine am_aload_n dX4_drawing_37 rfl ?_
          refine am_getR (o' := 0) dX4_drawing_38 fl_RX4_38 sh_4 rfl rfl hk_4 ?_
          refine am_iload_n dX4_drawing_41 rfl ?_
          obtain ⟨g13, h⟩ := am_grd h
          refine am_aaload dX4_drawing_42 sh_505 rfl rfl hk_505 (am_inbE g13) ?_
          refine am_top (w := .inr (.inr (2, x1.toNatClampNeg, 0))) rfl ?_
          refine am_iload_n dX4_drawing_43 rfl ?_
          refine am_iload_n dX4_drawing_44 rfl ?_
          obtain ⟨r15, c14, h⟩ := am_bnd h
          refine am_callVv (as := [.inl x2, .inl x3]) dX4_drawing_45 cv_RX4_98 cb_X2_becomeDrawing sh_2 rfl hk_2 rfl rfl (Nat.le_of_ble_eq_true rfl) (c_X2_becomeDrawing c14) ?_
          refine am_iconst dX4_drawing_48 ic_1 ?_
          obtain rfl := Option.some.inj h
          exact am_ireturn dX4_drawing_49 rfl rfl hp
        · replace h := am_ifT b18 h
          refine am_aload_n dX4_drawing_30 rfl ?_
          refine am_bipush dX4_drawing_31 bp_m2 ?_
          obtain ⟨r17, c16, h⟩ := am_bnd h
          refine am_callVi (as := [.inl (-2 : Int32)]) dX4_drawing_33 cv_RX4_58 cb_X4_refuse sh_4 rfl hk_4 rfl rfl (Nat.le_of_ble_eq_true rfl) (c_X4_refuse c16) ?_
          obtain rfl := Option.some.inj h
          exact am_ireturn dX4_drawing_36 rfl rfl hp
theorem c_X4_drawing {K : am_K} {d : Nat} {M : am_M} {x1 : Int32} {x2 : Int32} {x3 : Int32} {y : Int32 × am_M} (h : f_X4_drawing M x1 x2 x3 = some y) : am_Met K (d + 2) m_X4_drawing [.inr (.inr (4, 0, 0)), .inl x1, .inl x2, .inl x3] M (fun q N => q = some (.inl y.1) ∧ N = y.2) :=
  am_Met_of cb_X4_drawing (Nat.le_of_ble_eq_true rfl) (w_X4_drawing h ⟨rfl, rfl⟩)
def l_X4_isUnder_4 (M : am_M) (a1 : Int32) : Nat → Int32 → Int32 → Option (Int32)
  | 0, _, _ => none
  | n + 1, a2, a3 => (if (7 : Int32) ≤ a3 then some a2 else (if a2 = a1 then some a2 else (f_X4_isWithin M a2 ((7 : Int32) - (1 : Int32))).bind (fun r2 => ((if r2 = 0 then some (-1 : Int32) else if am_inb a2 7 = true then some (am_KA.getD a2.toNatClampNeg 0) else none) : Option (Int32)).bind (fun z3 => am_let (a3 + (1 : Int32)) (fun v8 => l_X4_isUnder_4 M a1 n z3 v8)))))
set_option maxHeartbeats 4000000 in
theorem wl_X4_isUnder_4 {K : am_K} {d : Nat} {post : Option am_V → am_M → Prop} {M : am_M} {a1 : Int32} : ∀ (n : Nat) (a2 : Int32) (a3 : Int32) (x : Int32), l_X4_isUnder_4 M a1 n a2 a3 = some x → am_W K (d + 1) m_X4_isUnder 46 [(1, .inl a1), (2, .inl x)] [] M post → am_W K (d + 1) m_X4_isUnder 4 [(1, .inl a1), (2, .inl a2), (3, .inl a3)] [] M post := by
  intro n
  induction n with
  | zero => intro a2 a3 x h KX; cases h
  | succ n ih =>
    intro a2 a3 x h KX
    rw [l_X4_isUnder_4] at h
    refine am_iload_n dX4_isUnder_4 rfl ?_
    refine am_gets (q := 9000) (by decide) dX4_isUnder_5 fs_RX4_324 (fun U hU => hU.2.2.1) ?_
    refine am_tabN dX4_isUnder_8 (fun U hU => hU.2.2.2.1) on_7 ?_
    refine am_icmp_ge 46 dX4_isUnder_9 rfl (fun b10 => ?_) (fun b10 => ?_)
    · replace h := am_ifT b10 h
      obtain rfl := Option.some.inj h
      exact am_drop [1, 2] rfl KX
    · replace h := am_ifF b10 h
      refine am_iload_n dX4_isUnder_12 rfl ?_
      refine am_iload_n dX4_isUnder_13 rfl ?_
      refine am_icmp_eq 46 dX4_isUnder_14 rfl (fun b9 => ?_) (fun b9 => ?_)
      · replace h := am_ifT b9 h
        obtain rfl := Option.some.inj h
        exact am_drop [1, 2] rfl KX
      · replace h := am_ifF b9 h
        refine am_iload_n dX4_isUnder_17 rfl ?_
        refine am_gets (q := 9000) (by decide) dX4_isUnder_18 fs_RX4_324 (fun U hU => hU.2.2.1) ?_
        refine am_tabN dX4_isUnder_21 (fun U hU => hU.2.2.2.1) on_7 ?_
        refine am_iconst dX4_isUnder_22 ic_1 ?_
        refine am_isub dX4_isUnder_23 ?_
        obtain ⟨r2, c1, h⟩ := am_bnd h
        refine am_callSi (as := [.inl a2, .inl ((7 : Int32) - (1 : Int32))]) dX4_isUnder_24 cs_RX4_54 cb_X4_isWithin rfl rfl (Nat.le_of_ble_eq_true rfl) (c_X4_isWithin c1) ?_
        obtain ⟨z3, h4, h⟩ := am_bnd h
        have KK5 : am_W K (d + 1) m_X4_isUnder 39 [(1, .inl a1), (3, .inl a3)] [.inl z3] M post := by
          refine am_istore_n (ls' := [(1, .inl a1), (2, .inl z3), (3, .inl a3)]) dX4_isUnder_39 (Nat.le_of_ble_eq_true rfl) rfl ?_
          obtain ⟨v8, ev8, h⟩ := am_letE h
          refine am_iinc (ls' := [(1, .inl a1), (2, .inl z3), (3, .inl v8)]) dX4_isUnder_40 rfl ((congrArg (fun z => a3 + z) ic_1).trans ev8.symm) (Nat.le_of_ble_eq_true rfl) rfl ?_
          refine am_goto 4 dX4_isUnder_43 rfl ?_
          exact am_drop [1, 2, 3] rfl (ih _ _ _ h KX)
        clear h
        refine am_if_eq 38 dX4_isUnder_27 rfl (fun b7 => ?_) (fun b7 => ?_)
        · replace h4 := am_ifT b7 h4
          refine am_iconst dX4_isUnder_38 ic_m1 ?_
          obtain rfl := Option.some.inj h4
          exact am_drop [1, 3] rfl KK5
        · replace h4 := am_ifF b7 h4
          refine am_gets (q := 9000) (by decide) dX4_isUnder_30 fs_RX4_324 (fun U hU => hU.2.2.1) ?_
          refine am_iload_n dX4_isUnder_33 rfl ?_
          obtain ⟨g6, h4⟩ := am_grd h4
          refine am_tabI (f := fun j => am_KA.getD j 0) dX4_isUnder_34 (fun U hU => hU.2.2.2.1) (am_inbE g6) ?_
          refine am_goto 39 dX4_isUnder_35 rfl ?_
          obtain rfl := Option.some.inj h4
          exact am_drop [1, 3] rfl KK5
def f_X4_isUnder (M : am_M) (x0 : Int32) (x1 : Int32) : Option (Int32) :=
  (l_X4_isUnder_4 M x1 1000 x0 (0 : Int32)).bind (fun z11 => (if z11 = x1 then some (1 : Int32) else some (0 : Int32)))
set_option maxHeartbeats 4000000 in
theorem w_X4_isUnder {K : am_K} {d : Nat} {post : Option am_V → am_M → Prop} {M : am_M} {x0 : Int32} {x1 : Int32} {y : Int32} (h : f_X4_isUnder M x0 x1 = some y) (hp : post (some (.inl y)) M) : am_W K (d + 1) m_X4_isUnder 0 [(0, .inl x0), (1, .inl x1)] [] M post := by
  unfold f_X4_isUnder at h
  refine am_iload_n dX4_isUnder_0 rfl ?_
  refine am_istore_n (ls' := [(0, .inl x0), (1, .inl x1), (2, .inl x0)]) dX4_isUnder_1 (Nat.le_of_ble_eq_true rfl) rfl ?_
  refine am_iconst dX4_isUnder_2 ic_0 ?_
  refine am_istore_n (ls' := [(0, .inl x0), (1, .inl x1), (2, .inl x0), (3, .inl (0 : Int32))]) dX4_isUnder_3 (Nat.le_of_ble_eq_true rfl) rfl ?_
  obtain ⟨z11, h12, h⟩ := am_bnd h
  have KK13 : am_W K (d + 1) m_X4_isUnder 46 [(1, .inl x1), (2, .inl z11)] [] M post := by
    refine am_iload_n dX4_isUnder_46 rfl ?_
    refine am_iload_n dX4_isUnder_47 rfl ?_
    refine am_icmp_ne 55 dX4_isUnder_48 rfl (fun b14 => ?_) (fun b14 => ?_)
    · replace h := am_ifF b14 h
      refine am_iconst dX4_isUnder_55 ic_0 ?_
      obtain rfl := Option.some.inj h
      exact am_ireturn dX4_isUnder_56 rfl (am_narZ (by decide)) hp
    · replace h := am_ifT b14 h
      refine am_iconst dX4_isUnder_51 ic_1 ?_
      refine am_goto 56 dX4_isUnder_52 rfl ?_
      obtain rfl := Option.some.inj h
      exact am_ireturn dX4_isUnder_56 rfl (am_narZ (by decide)) hp
  exact am_drop [1, 2, 3] rfl (wl_X4_isUnder_4 _ _ _ _ h12 KK13)
theorem c_X4_isUnder {K : am_K} {d : Nat} {M : am_M} {x0 : Int32} {x1 : Int32} {y : Int32} (h : f_X4_isUnder M x0 x1 = some y) : am_Met K (d + 1) m_X4_isUnder [.inl x0, .inl x1] M (fun q N => q = some (.inl y) ∧ N = M) :=
  am_Met_of cb_X4_isUnder (Nat.le_of_ble_eq_true rfl) (w_X4_isUnder h ⟨rfl, rfl⟩)
