def l_X5_spentNow_26 (M : am_M) (o0a : Nat) (a3 : Int32) : Nat → Int64 → Int32 → Option (Int64)
  | 0, _, _ => none
  | n + 1, a1, a4 => (if a3 < a4 then some a1 else ((if ((2 : Int32) * a4) ≤ a3 then some (0 : Int64) else (f_X5_through M o0a a3 a4).bind (fun r9 => some r9)) : Option (Int64)).bind (fun z5 => am_let (a1 + z5) (fun v11 => am_let (a4 + (1 : Int32)) (fun v12 => l_X5_spentNow_26 M o0a a3 n v11 v12))))
set_option maxHeartbeats 4000000 in
theorem wl_X5_spentNow_26 {K : am_K} {d : Nat} {post : Option am_V → am_M → Prop} {M : am_M} {o0a : Nat} {a3 : Int32} : ∀ (n : Nat) (a1 : Int64) (a4 : Int32) (x : Int64), l_X5_spentNow_26 M o0a a3 n a1 a4 = some x → am_W K (d + 2) m_X5_spentNow 60 [(0, .inr (.inr (5, o0a, 0))), (1, .inr (.inl x)), (3, .inl a3)] [] M post → am_W K (d + 2) m_X5_spentNow 26 [(0, .inr (.inr (5, o0a, 0))), (1, .inr (.inl a1)), (3, .inl a3), (4, .inl a4)] [] M post := by
  intro n
  induction n with
  | zero => intro a1 a4 x h KX; cases h
  | succ n ih =>
    intro a1 a4 x h KX
    rw [l_X5_spentNow_26] at h
    refine am_iload dX5_spentNow_26 rfl ?_
    refine am_iload_n dX5_spentNow_28 rfl ?_
    refine am_icmp_gt 60 dX5_spentNow_29 rfl (fun b13 => ?_) (fun b13 => ?_)
    · replace h := am_ifT b13 h
      obtain rfl := Option.some.inj h
      exact am_drop [0, 1, 3] rfl KX
    · replace h := am_ifF b13 h
      refine am_lload_n dX5_spentNow_32 rfl ?_
      refine am_iconst dX5_spentNow_33 ic_2 ?_
      refine am_iload dX5_spentNow_34 rfl ?_
      refine am_imul dX5_spentNow_36 ?_
      refine am_iload_n dX5_spentNow_37 rfl ?_
      obtain ⟨z5, h6, h⟩ := am_bnd h
      have KK7 : am_W K (d + 2) m_X5_spentNow 52 [(0, .inr (.inr (5, o0a, 0))), (3, .inl a3), (4, .inl a4)] [.inr (.inl z5), .inr (.inl a1)] M post := by
        refine am_ladd dX5_spentNow_52 ?_
        obtain ⟨v11, ev11, h⟩ := am_letE h
        refine am_topL ev11 ?_
        refine am_lstore_n (ls' := [(0, .inr (.inr (5, o0a, 0))), (1, .inr (.inl v11)), (3, .inl a3), (4, .inl a4)]) dX5_spentNow_53 (Nat.le_of_ble_eq_true rfl) rfl ?_
        obtain ⟨v12, ev12, h⟩ := am_letE h
        refine am_iinc (ls' := [(0, .inr (.inr (5, o0a, 0))), (1, .inr (.inl v11)), (3, .inl a3), (4, .inl v12)]) dX5_spentNow_54 rfl ((congrArg (fun z => a4 + z) ic_1).trans ev12.symm) (Nat.le_of_ble_eq_true rfl) rfl ?_
        refine am_goto 26 dX5_spentNow_57 rfl ?_
        exact am_drop [0, 1, 3, 4] rfl (ih _ _ _ h KX)
      clear h
      refine am_icmp_le 51 dX5_spentNow_38 rfl (fun b10 => ?_) (fun b10 => ?_)
      · replace h6 := am_ifT b10 h6
        refine am_lconst dX5_spentNow_51 lc_0 ?_
        obtain rfl := Option.some.inj h6
        exact am_drop [0, 3, 4] rfl KK7
      · replace h6 := am_ifF b10 h6
        refine am_aload_n dX5_spentNow_41 rfl ?_
        refine am_iload_n dX5_spentNow_42 rfl ?_
        refine am_iload dX5_spentNow_43 rfl ?_
        obtain ⟨r9, c8, h6⟩ := am_bnd h6
        refine am_callVl (as := [.inl a3, .inl a4]) dX5_spentNow_45 cv_RX5_313 cb_X5_through sh_5 rfl hk_5 rfl rfl (Nat.le_of_ble_eq_true rfl) (c_X5_through c8) ?_
        refine am_goto 52 dX5_spentNow_48 rfl ?_
        obtain rfl := Option.some.inj h6
        exact am_drop [0, 3, 4] rfl KK7
def l_X5_spentNow_15 (M : am_M) (o0a : Nat) : Nat → Int64 → Int32 → Option (Int64)
  | 0, _, _ => none
  | n + 1, a1, a3 => (if (M.1 5 o0a 0 29) < a3 then some a1 else (l_X5_spentNow_26 M o0a a3 1000 a1 (0 : Int32)).bind (fun z14 => am_let (a3 + (1 : Int32)) (fun v17 => l_X5_spentNow_15 M o0a n z14 v17)))
set_option maxHeartbeats 4000000 in
theorem wl_X5_spentNow_15 {K : am_K} {d : Nat} {post : Option am_V → am_M → Prop} {M : am_M} {o0a : Nat} : ∀ (n : Nat) (a1 : Int64) (a3 : Int32) (x : Int64), l_X5_spentNow_15 M o0a n a1 a3 = some x → am_W K (d + 2) m_X5_spentNow 66 [(1, .inr (.inl x))] [] M post → am_W K (d + 2) m_X5_spentNow 15 [(0, .inr (.inr (5, o0a, 0))), (1, .inr (.inl a1)), (3, .inl a3)] [] M post := by
  intro n
  induction n with
  | zero => intro a1 a3 x h KX; cases h
  | succ n ih =>
    intro a1 a3 x h KX
    rw [l_X5_spentNow_15] at h
    refine am_iload_n dX5_spentNow_15 rfl ?_
    refine am_aload_n dX5_spentNow_16 rfl ?_
    refine am_getI dX5_spentNow_17 fl_RX5_254 sh_5 rfl hk_5 ?_
    refine am_icmp_gt 66 dX5_spentNow_20 rfl (fun b18 => ?_) (fun b18 => ?_)
    · replace h := am_ifT b18 h
      obtain rfl := Option.some.inj h
      exact am_drop [1] rfl KX
    · replace h := am_ifF b18 h
      refine am_iconst dX5_spentNow_23 ic_0 ?_
      refine am_istore (ls' := [(0, .inr (.inr (5, o0a, 0))), (1, .inr (.inl a1)), (3, .inl a3), (4, .inl (0 : Int32))]) dX5_spentNow_24 (Nat.le_of_ble_eq_true rfl) rfl ?_
      obtain ⟨z14, h15, h⟩ := am_bnd h
      have KK16 : am_W K (d + 2) m_X5_spentNow 60 [(0, .inr (.inr (5, o0a, 0))), (1, .inr (.inl z14)), (3, .inl a3)] [] M post := by
        obtain ⟨v17, ev17, h⟩ := am_letE h
        refine am_iinc (ls' := [(0, .inr (.inr (5, o0a, 0))), (1, .inr (.inl z14)), (3, .inl v17)]) dX5_spentNow_60 rfl ((congrArg (fun z => a3 + z) ic_1).trans ev17.symm) (Nat.le_of_ble_eq_true rfl) rfl ?_
        refine am_goto 15 dX5_spentNow_63 rfl ?_
        exact am_drop [0, 1, 3] rfl (ih _ _ _ h KX)
      exact am_drop [0, 1, 3, 4] rfl (wl_X5_spentNow_26 _ _ _ _ h15 KK16)
def f_X5_spentNow (M : am_M) (o : Nat) : Option (Int64 × am_M) :=
  (f_X5_count M o (0 : Int32) (0 : Int32)).bind (fun r2 => (f_X5_countBack r2.2 o).bind (fun r4 => (l_X5_spentNow_15 r4 o 1000 (0 : Int64) (1 : Int32)).bind (fun z19 => some (z19, r4))))
set_option maxHeartbeats 4000000 in
theorem w_X5_spentNow {K : am_K} {d : Nat} {post : Option am_V → am_M → Prop} {M : am_M} {o : Nat} {y : Int64 × am_M} (h : f_X5_spentNow M o = some y) (hp : post (some (.inr (.inl y.1))) y.2) : am_W K (d + 2) m_X5_spentNow 0 [(0, .inr (.inr (5, o, 0)))] [] M post := by
  unfold f_X5_spentNow at h
  refine am_aload_n dX5_spentNow_0 rfl ?_
  refine am_iconst dX5_spentNow_1 ic_0 ?_
  refine am_iconst dX5_spentNow_2 ic_0 ?_
  obtain ⟨r2, c1, h⟩ := am_bnd h
  refine am_callVl (as := [.inl (0 : Int32), .inl (0 : Int32)]) dX5_spentNow_3 cv_RX5_273 cb_X5_count sh_5 rfl hk_5 rfl rfl (Nat.le_of_ble_eq_true rfl) (c_X5_count c1) ?_
  refine am_pop2 dX5_spentNow_6 rfl ?_
  refine am_aload_n dX5_spentNow_7 rfl ?_
  obtain ⟨r4, c3, h⟩ := am_bnd h
  refine am_callVv (as := []) dX5_spentNow_8 cv_RX5_304 cb_X5_countBack sh_5 rfl hk_5 rfl rfl (Nat.le_of_ble_eq_true rfl) (c_X5_countBack c3) ?_
  refine am_lconst dX5_spentNow_11 lc_0 ?_
  refine am_lstore_n (ls' := [(0, .inr (.inr (5, o, 0))), (1, .inr (.inl (0 : Int64)))]) dX5_spentNow_12 (Nat.le_of_ble_eq_true rfl) rfl ?_
  refine am_iconst dX5_spentNow_13 ic_1 ?_
  refine am_istore_n (ls' := [(0, .inr (.inr (5, o, 0))), (1, .inr (.inl (0 : Int64))), (3, .inl (1 : Int32))]) dX5_spentNow_14 (Nat.le_of_ble_eq_true rfl) rfl ?_
  obtain ⟨z19, h20, h⟩ := am_bnd h
  have KK21 : am_W K (d + 2) m_X5_spentNow 66 [(1, .inr (.inl z19))] [] r4 post := by
    refine am_lload_n dX5_spentNow_66 rfl ?_
    obtain rfl := Option.some.inj h
    exact am_lreturn dX5_spentNow_67 rfl hp
  exact am_drop [0, 1, 3] rfl (wl_X5_spentNow_15 _ _ _ _ h20 KK21)
theorem c_X5_spentNow {K : am_K} {d : Nat} {M : am_M} {o : Nat} {y : Int64 × am_M} (h : f_X5_spentNow M o = some y) : am_Met K (d + 2) m_X5_spentNow [.inr (.inr (5, o, 0))] M (fun q N => q = some (.inr (.inl y.1)) ∧ N = y.2) :=
  am_Met_of cb_X5_spentNow (Nat.le_of_ble_eq_true rfl) (w_X5_spentNow h ⟨rfl, rfl⟩)
def f_X5_spent (M : am_M) (o : Nat) : Option (Int64 × am_M) :=
  (f_X5_seeAll M o).bind (fun r2 => (f_X5_spentNow r2 o).bind (fun r4 => some (r4.1, r4.2)))
set_option maxHeartbeats 4000000 in
theorem w_X5_spent {K : am_K} {d : Nat} {post : Option am_V → am_M → Prop} {M : am_M} {o : Nat} {y : Int64 × am_M} (h : f_X5_spent M o = some y) (hp : post (some (.inr (.inl y.1))) y.2) : am_W K (d + 4) m_X5_spent 0 [(0, .inr (.inr (5, o, 0)))] [] M post := by
  unfold f_X5_spent at h
  refine am_aload_n dX5_spent_0 rfl ?_
  obtain ⟨r2, c1, h⟩ := am_bnd h
  refine am_callVv (as := []) dX5_spent_1 cv_RX5_276 cb_X5_seeAll sh_5 rfl hk_5 rfl rfl (Nat.le_of_ble_eq_true rfl) (c_X5_seeAll c1) ?_
  refine am_aload_n dX5_spent_4 rfl ?_
  obtain ⟨r4, c3, h⟩ := am_bnd h
  refine am_callVl (as := []) dX5_spent_5 cv_RX5_316 cb_X5_spentNow sh_5 rfl hk_5 rfl rfl (Nat.le_of_ble_eq_true rfl) (c_X5_spentNow c3) ?_
  obtain rfl := Option.some.inj h
  exact am_lreturn dX5_spent_8 rfl hp
theorem c_X5_spent {K : am_K} {d : Nat} {M : am_M} {o : Nat} {y : Int64 × am_M} (h : f_X5_spent M o = some y) : am_Met K (d + 4) m_X5_spent [.inr (.inr (5, o, 0))] M (fun q N => q = some (.inr (.inl y.1)) ∧ N = y.2) :=
  am_Met_of cb_X5_spent (Nat.le_of_ble_eq_true rfl) (w_X5_spent h ⟨rfl, rfl⟩)
def l_X5_mean_12 (M : am_M) (o0a : Nat) : Nat → Int64 → Int32 → Option (Int64)
  | 0, _, _ => none
  | n + 1, a1, a3 => (if (M.1 5 o0a 0 29) < a3 then some a1 else if am_inb a3 25 = true then am_let (a1 + (a3.toInt64 * (M.2 634 o0a 0 a3.toNatClampNeg))) (fun v6 => am_let (a3 + (1 : Int32)) (fun v7 => l_X5_mean_12 M o0a n v6 v7)) else none)
set_option maxHeartbeats 4000000 in
theorem wl_X5_mean_12 {K : am_K} {d : Nat} {post : Option am_V → am_M → Prop} {M : am_M} {o0a : Nat} : ∀ (n : Nat) (a1 : Int64) (a3 : Int32) (x : Int64), l_X5_mean_12 M o0a n a1 a3 = some x → am_W K (d + 4) m_X5_mean 38 [(1, .inr (.inl x))] [] M post → am_W K (d + 4) m_X5_mean 12 [(0, .inr (.inr (5, o0a, 0))), (1, .inr (.inl a1)), (3, .inl a3)] [] M post := by
  intro n
  induction n with
  | zero => intro a1 a3 x h KX; cases h
  | succ n ih =>
    intro a1 a3 x h KX
    rw [l_X5_mean_12] at h
    refine am_iload_n dX5_mean_12 rfl ?_
    refine am_aload_n dX5_mean_13 rfl ?_
    refine am_getI dX5_mean_14 fl_RX5_254 sh_5 rfl hk_5 ?_
    refine am_icmp_gt 38 dX5_mean_17 rfl (fun b8 => ?_) (fun b8 => ?_)
    · replace h := am_ifT b8 h
      obtain rfl := Option.some.inj h
      exact am_drop [1] rfl KX
    · replace h := am_ifF b8 h
      refine am_lload_n dX5_mean_20 rfl ?_
      refine am_iload_n dX5_mean_21 rfl ?_
      refine am_i2l dX5_mean_22 ?_
      refine am_aload_n dX5_mean_23 rfl ?_
      refine am_getR (o' := o0a) dX5_mean_24 fl_RX5_81 sh_5 rfl rfl hk_5 ?_
      refine am_iload_n dX5_mean_27 rfl ?_
      obtain ⟨g5, h⟩ := am_grd h
      refine am_laload dX5_mean_28 sh_634 hk_634 (am_inbE g5) ?_
      refine am_lmul dX5_mean_29 ?_
      refine am_ladd dX5_mean_30 ?_
      obtain ⟨v6, ev6, h⟩ := am_letE h
      refine am_topL ev6 ?_
      refine am_lstore_n (ls' := [(0, .inr (.inr (5, o0a, 0))), (1, .inr (.inl v6)), (3, .inl a3)]) dX5_mean_31 (Nat.le_of_ble_eq_true rfl) rfl ?_
      obtain ⟨v7, ev7, h⟩ := am_letE h
      refine am_iinc (ls' := [(0, .inr (.inr (5, o0a, 0))), (1, .inr (.inl v6)), (3, .inl v7)]) dX5_mean_32 rfl ((congrArg (fun z => a3 + z) ic_1).trans ev7.symm) (Nat.le_of_ble_eq_true rfl) rfl ?_
      refine am_goto 12 dX5_mean_35 rfl ?_
      exact am_drop [0, 1, 3] rfl (ih _ _ _ h KX)
def f_X5_mean (M : am_M) (o : Nat) : Option (Int64 × am_M) :=
  (f_X5_seeAll M o).bind (fun r2 => (f_X5_findSure r2 o).bind (fun r4 => (l_X5_mean_12 r4 o 1000 (0 : Int64) (0 : Int32)).bind (fun z9 => some (z9, r4))))
set_option maxHeartbeats 4000000 in
theorem w_X5_mean {K : am_K} {d : Nat} {post : Option am_V → am_M → Prop} {M : am_M} {o : Nat} {y : Int64 × am_M} (h : f_X5_mean M o = some y) (hp : post (some (.inr (.inl y.1))) y.2) : am_W K (d + 4) m_X5_mean 0 [(0, .inr (.inr (5, o, 0)))] [] M post := by
  unfold f_X5_mean at h
  refine am_aload_n dX5_mean_0 rfl ?_
  obtain ⟨r2, c1, h⟩ := am_bnd h
  refine am_callVv (as := []) dX5_mean_1 cv_RX5_276 cb_X5_seeAll sh_5 rfl hk_5 rfl rfl (Nat.le_of_ble_eq_true rfl) (c_X5_seeAll c1) ?_
  refine am_aload_n dX5_mean_4 rfl ?_
  obtain ⟨r4, c3, h⟩ := am_bnd h
  refine am_callVv (as := []) dX5_mean_5 cv_RX5_310 cb_X5_findSure sh_5 rfl hk_5 rfl rfl (Nat.le_of_ble_eq_true rfl) (c_X5_findSure c3) ?_
  refine am_lconst dX5_mean_8 lc_0 ?_
  refine am_lstore_n (ls' := [(0, .inr (.inr (5, o, 0))), (1, .inr (.inl (0 : Int64)))]) dX5_mean_9 (Nat.le_of_ble_eq_true rfl) rfl ?_
  refine am_iconst dX5_mean_10 ic_0 ?_
  refine am_istore_n (ls' := [(0, .inr (.inr (5, o, 0))), (1, .inr (.inl (0 : Int64))), (3, .inl (0 : Int32))]) dX5_mean_11 (Nat.le_of_ble_eq_true rfl) rfl ?_
  obtain ⟨z9, h10, h⟩ := am_bnd h
  have KK11 : am_W K (d + 4) m_X5_mean 38 [(1, .inr (.inl z9))] [] r4 post := by
    refine am_lload_n dX5_mean_38 rfl ?_
    obtain rfl := Option.some.inj h
    exact am_lreturn dX5_mean_39 rfl hp
  exact am_drop [0, 1, 3] rfl (wl_X5_mean_12 _ _ _ _ h10 KK11)
theorem c_X5_mean {K : am_K} {d : Nat} {M : am_M} {o : Nat} {y : Int64 × am_M} (h : f_X5_mean M o = some y) : am_Met K (d + 4) m_X5_mean [.inr (.inr (5, o, 0))] M (fun q N => q = some (.inr (.inl y.1)) ∧ N = y.2) :=
  am_Met_of cb_X5_mean (Nat.le_of_ble_eq_true rfl) (w_X5_mean h ⟨rfl, rfl⟩)
def f_X5_price (M : am_M) (o : Nat) (x1 : Int32) : Option (Int32 × am_M) :=
  (f_X5_in M x1.toInt64 (0 : Int64) (9 : Int64)).bind (fun r2 => (if r2 = 0 then (f_X5_refuse M o (-2 : Int32)).bind (fun r13 => some (r13.1, r13.2)) else (f_X5_waysOf M o).bind (fun r4 => am_let r4.1 (fun v5 => (if (lg_cmp v5 (0 : Int64)) = 0 then (f_X5_refuse r4.2 o (-5 : Int32)).bind (fun r10 => some (r10.1, r10.2)) else (f_X5_count r4.2 o (1 : Int32) x1).bind (fun r7 => if ¬ v5 = 0 then some ((((1000 : Int64) * r7.1) / v5).toInt32, r7.2) else none))))))
set_option maxHeartbeats 4000000 in
theorem w_X5_price {K : am_K} {d : Nat} {post : Option am_V → am_M → Prop} {M : am_M} {o : Nat} {x1 : Int32} {y : Int32 × am_M} (h : f_X5_price M o x1 = some y) (hp : post (some (.inl y.1)) y.2) : am_W K (d + 5) m_X5_price 0 [(0, .inr (.inr (5, o, 0))), (1, .inl x1)] [] M post := by
  unfold f_X5_price at h
  refine am_iload_n dX5_price_0 rfl ?_
  refine am_i2l dX5_price_1 ?_
  refine am_lconst dX5_price_2 lc_0 ?_
  refine am_ldc2 dX5_price_3 kc_RX5_120 ?_
  obtain ⟨r2, c1, h⟩ := am_bnd h
  refine am_callSi (as := [.inr (.inl x1.toInt64), .inr (.inl (0 : Int64)), .inr (.inl (9 : Int64))]) dX5_price_6 cs_RX5_95 cb_X5_in rfl rfl (Nat.le_of_ble_eq_true rfl) (c_X5_in c1) ?_
  refine am_if_ne 19 dX5_price_9 rfl (fun b14 => ?_) (fun b14 => ?_)
  · replace h := am_ifF b14 h
    refine am_aload_n dX5_price_19 rfl ?_
    obtain ⟨r4, c3, h⟩ := am_bnd h
    refine am_callVl (as := []) dX5_price_20 cv_RX5_279 cb_X5_waysOf sh_5 rfl hk_5 rfl rfl (Nat.le_of_ble_eq_true rfl) (c_X5_waysOf c3) ?_
    obtain ⟨v5, ev5, h⟩ := am_letE h
    refine am_topL ev5 ?_
    refine am_lstore_n (ls' := [(0, .inr (.inr (5, o, 0))), (1, .inl x1), (2, .inr (.inl v5))]) dX5_price_23 (Nat.le_of_ble_eq_true rfl) rfl ?_
    refine am_lload_n dX5_price_24 rfl ?_
    refine am_lconst dX5_price_25 lc_0 ?_
    refine am_lcmp dX5_price_26 ?_
    refine am_if_ne 39 dX5_price_27 rfl (fun b11 => ?_) (fun b11 => ?_)
    · replace h := am_ifF b11 h
      refine am_ldc2 dX5_price_39 kc_RX5_319 ?_
      refine am_aload_n dX5_price_42 rfl ?_
      refine am_iconst dX5_price_43 ic_1 ?_
      refine am_iload_n dX5_price_44 rfl ?_
      obtain ⟨r7, c6, h⟩ := am_bnd h
      refine am_callVl (as := [.inl (1 : Int32), .inl x1]) dX5_price_45 cv_RX5_273 cb_X5_count sh_5 rfl hk_5 rfl rfl (Nat.le_of_ble_eq_true rfl) (c_X5_count c6) ?_
      refine am_lmul dX5_price_48 ?_
      refine am_lload_n dX5_price_49 rfl ?_
      obtain ⟨g8, h⟩ := am_grd h
      refine am_ldiv dX5_price_50 g8 ?_
      refine am_l2i dX5_price_51 ?_
      obtain rfl := Option.some.inj h
      exact am_ireturn dX5_price_52 rfl rfl hp
    · replace h := am_ifT b11 h
      refine am_aload_n dX5_price_30 rfl ?_
      refine am_bipush dX5_price_31 bp_m5 ?_
      obtain ⟨r10, c9, h⟩ := am_bnd h
      refine am_callVi (as := [.inl (-5 : Int32)]) dX5_price_33 cv_RX5_103 cb_X5_refuse sh_5 rfl hk_5 rfl rfl (Nat.le_of_ble_eq_true rfl) (c_X5_refuse c9) ?_
      refine am_goto 52 dX5_price_36 rfl ?_
      obtain rfl := Option.some.inj h
      exact am_ireturn dX5_price_52 rfl rfl hp
  · replace h := am_ifT b14 h
    refine am_aload_n dX5_price_12 rfl ?_
    refine am_bipush dX5_price_13 bp_m2 ?_
    obtain ⟨r13, c12, h⟩ := am_bnd h
    refine am_callVi (as := [.inl (-2 : Int32)]) dX5_price_15 cv_RX5_103 cb_X5_refuse sh_5 rfl hk_5 rfl rfl (Nat.le_of_ble_eq_true rfl) (c_X5_refuse c12) ?_
    obtain rfl := Option.some.inj h
    exact am_ireturn dX5_price_18 rfl rfl hp
theorem c_X5_price {K : am_K} {d : Nat} {M : am_M} {o : Nat} {x1 : Int32} {y : Int32 × am_M} (h : f_X5_price M o x1 = some y) : am_Met K (d + 5) m_X5_price [.inr (.inr (5, o, 0)), .inl x1] M (fun q N => q = some (.inl y.1) ∧ N = y.2) :=
  am_Met_of cb_X5_price (Nat.le_of_ble_eq_true rfl) (w_X5_price h ⟨rfl, rfl⟩)
def l_X5_often_13 (M : am_M) (o0a : Nat) : Nat → Int32 → Int32 → Option (Int32)
  | 0, _, _ => none
  | n + 1, a1, a2 => (if (M.1 5 o0a 0 29) < a2 then some a1 else (f_X5_levels M o0a a2).bind (fun r6 => (f_X5_levels M o0a a1).bind (fun r8 => ((if (lg_cmp r6 r8) ≤ 0 then some a1 else some a2) : Option (Int32)).bind (fun z9 => am_let (a2 + (1 : Int32)) (fun v13 => l_X5_often_13 M o0a n z9 v13)))))
set_option maxHeartbeats 4000000 in
theorem wl_X5_often_13 {K : am_K} {d : Nat} {post : Option am_V → am_M → Prop} {M : am_M} {o0a : Nat} : ∀ (n : Nat) (a1 : Int32) (a2 : Int32) (x : Int32), l_X5_often_13 M o0a n a1 a2 = some x → am_W K (d + 4) m_X5_often 47 [(1, .inl x)] [] M post → am_W K (d + 4) m_X5_often 13 [(0, .inr (.inr (5, o0a, 0))), (1, .inl a1), (2, .inl a2)] [] M post := by
  intro n
  induction n with
  | zero => intro a1 a2 x h KX; cases h
  | succ n ih =>
    intro a1 a2 x h KX
    rw [l_X5_often_13] at h
    refine am_iload_n dX5_often_13 rfl ?_
    refine am_aload_n dX5_often_14 rfl ?_
    refine am_getI dX5_often_15 fl_RX5_254 sh_5 rfl hk_5 ?_
    refine am_icmp_gt 47 dX5_often_18 rfl (fun b14 => ?_) (fun b14 => ?_)
    · replace h := am_ifT b14 h
      obtain rfl := Option.some.inj h
      exact am_drop [1] rfl KX
    · replace h := am_ifF b14 h
      refine am_aload_n dX5_often_21 rfl ?_
      refine am_iload_n dX5_often_22 rfl ?_
      obtain ⟨r6, c5, h⟩ := am_bnd h
      refine am_callVl (as := [.inl a2]) dX5_often_23 cv_RX5_300 cb_X5_levels sh_5 rfl hk_5 rfl rfl (Nat.le_of_ble_eq_true rfl) (c_X5_levels c5) ?_
      refine am_aload_n dX5_often_26 rfl ?_
      refine am_iload_n dX5_often_27 rfl ?_
      obtain ⟨r8, c7, h⟩ := am_bnd h
      refine am_callVl (as := [.inl a1]) dX5_often_28 cv_RX5_300 cb_X5_levels sh_5 rfl hk_5 rfl rfl (Nat.le_of_ble_eq_true rfl) (c_X5_levels c7) ?_
      refine am_lcmp dX5_often_31 ?_
      obtain ⟨z9, h10, h⟩ := am_bnd h
      have KK11 : am_W K (d + 4) m_X5_often 40 [(0, .inr (.inr (5, o0a, 0))), (2, .inl a2)] [.inl z9] M post := by
        refine am_istore_n (ls' := [(0, .inr (.inr (5, o0a, 0))), (1, .inl z9), (2, .inl a2)]) dX5_often_40 (Nat.le_of_ble_eq_true rfl) rfl ?_
        obtain ⟨v13, ev13, h⟩ := am_letE h
        refine am_iinc (ls' := [(0, .inr (.inr (5, o0a, 0))), (1, .inl z9), (2, .inl v13)]) dX5_often_41 rfl ((congrArg (fun z => a2 + z) ic_1).trans ev13.symm) (Nat.le_of_ble_eq_true rfl) rfl ?_
        refine am_goto 13 dX5_often_44 rfl ?_
        exact am_drop [0, 1, 2] rfl (ih _ _ _ h KX)
      clear h
      refine am_if_le 39 dX5_often_32 rfl (fun b12 => ?_) (fun b12 => ?_)
      · replace h10 := am_ifT b12 h10
        refine am_iload_n dX5_often_39 rfl ?_
        obtain rfl := Option.some.inj h10
        exact am_drop [0, 2] rfl KK11
      · replace h10 := am_ifF b12 h10
        refine am_iload_n dX5_often_35 rfl ?_
        refine am_goto 40 dX5_often_36 rfl ?_
        obtain rfl := Option.some.inj h10
        exact am_drop [0, 2] rfl KK11
def f_X5_often (M : am_M) (o : Nat) : Option (Int32 × am_M) :=
  (f_X5_seeAll M o).bind (fun r2 => (f_X5_countMoments r2 o (1 : Int32)).bind (fun r4 => (l_X5_often_13 r4 o 1000 (0 : Int32) (1 : Int32)).bind (fun z15 => some (z15, r4))))
set_option maxHeartbeats 4000000 in
theorem w_X5_often {K : am_K} {d : Nat} {post : Option am_V → am_M → Prop} {M : am_M} {o : Nat} {y : Int32 × am_M} (h : f_X5_often M o = some y) (hp : post (some (.inl y.1)) y.2) : am_W K (d + 4) m_X5_often 0 [(0, .inr (.inr (5, o, 0)))] [] M post := by
  unfold f_X5_often at h
  refine am_aload_n dX5_often_0 rfl ?_
  obtain ⟨r2, c1, h⟩ := am_bnd h
  refine am_callVv (as := []) dX5_often_1 cv_RX5_276 cb_X5_seeAll sh_5 rfl hk_5 rfl rfl (Nat.le_of_ble_eq_true rfl) (c_X5_seeAll c1) ?_
  refine am_aload_n dX5_often_4 rfl ?_
  refine am_iconst dX5_often_5 ic_1 ?_
  obtain ⟨r4, c3, h⟩ := am_bnd h
  refine am_callVv (as := [.inl (1 : Int32)]) dX5_often_6 cv_RX5_296 cb_X5_countMoments sh_5 rfl hk_5 rfl rfl (Nat.le_of_ble_eq_true rfl) (c_X5_countMoments c3) ?_
  refine am_iconst dX5_often_9 ic_0 ?_
  refine am_istore_n (ls' := [(0, .inr (.inr (5, o, 0))), (1, .inl (0 : Int32))]) dX5_often_10 (Nat.le_of_ble_eq_true rfl) rfl ?_
  refine am_iconst dX5_often_11 ic_1 ?_
  refine am_istore_n (ls' := [(0, .inr (.inr (5, o, 0))), (1, .inl (0 : Int32)), (2, .inl (1 : Int32))]) dX5_often_12 (Nat.le_of_ble_eq_true rfl) rfl ?_
  obtain ⟨z15, h16, h⟩ := am_bnd h
  have KK17 : am_W K (d + 4) m_X5_often 47 [(1, .inl z15)] [] r4 post := by
    refine am_iload_n dX5_often_47 rfl ?_
    obtain rfl := Option.some.inj h
    exact am_ireturn dX5_often_48 rfl rfl hp
  exact am_drop [0, 1, 2] rfl (wl_X5_often_13 _ _ _ _ h16 KK17)
theorem c_X5_often {K : am_K} {d : Nat} {M : am_M} {o : Nat} {y : Int32 × am_M} (h : f_X5_often M o = some y) : am_Met K (d + 4) m_X5_often [.inr (.inr (5, o, 0))] M (fun q N => q = some (.inl y.1) ∧ N = y.2) :=
  am_Met_of cb_X5_often (Nat.le_of_ble_eq_true rfl) (w_X5_often h ⟨rfl, rfl⟩)
def l_X5_half_36 (M : am_M) (o0a : Nat) (a1 : Int64) : Nat → Int64 → Int32 → Option (Int32)
  | 0, _, _ => none
  | n + 1, a3, a5 => (if 0 ≤ (lg_cmp ((2 : Int64) * a3) a1) then some a5 else am_let (a5 + (1 : Int32)) (fun v7 => if am_inb v7 25 = true then am_let (a3 + (M.2 634 o0a 0 v7.toNatClampNeg)) (fun v9 => l_X5_half_36 M o0a a1 n v9 v7) else none))
set_option maxHeartbeats 4000000 in
theorem wl_X5_half_36 {K : am_K} {d : Nat} {post : Option am_V → am_M → Prop} {M : am_M} {o0a : Nat} {a1 : Int64} : ∀ (n : Nat) (a3 : Int64) (a5 : Int32) (x : Int32), l_X5_half_36 M o0a a1 n a3 a5 = some x → am_W K (d + 5) m_X5_half 62 [(5, .inl x)] [] M post → am_W K (d + 5) m_X5_half 36 [(0, .inr (.inr (5, o0a, 0))), (1, .inr (.inl a1)), (3, .inr (.inl a3)), (5, .inl a5)] [] M post := by
  intro n
  induction n with
  | zero => intro a3 a5 x h KX; cases h
  | succ n ih =>
    intro a3 a5 x h KX
    rw [l_X5_half_36] at h
    refine am_ldc2 dX5_half_36 kc_RX5_252 ?_
    refine am_lload_n dX5_half_39 rfl ?_
    refine am_lmul dX5_half_40 ?_
    refine am_lload_n dX5_half_41 rfl ?_
    refine am_lcmp dX5_half_42 ?_
    refine am_if_ge 62 dX5_half_43 rfl (fun b10 => ?_) (fun b10 => ?_)
    · replace h := am_ifT b10 h
      obtain rfl := Option.some.inj h
      exact am_drop [5] rfl KX
    · replace h := am_ifF b10 h
      obtain ⟨v7, ev7, h⟩ := am_letE h
      refine am_iinc (ls' := [(0, .inr (.inr (5, o0a, 0))), (1, .inr (.inl a1)), (3, .inr (.inl a3)), (5, .inl v7)]) dX5_half_46 rfl ((congrArg (fun z => a5 + z) ic_1).trans ev7.symm) (Nat.le_of_ble_eq_true rfl) rfl ?_
      refine am_lload_n dX5_half_49 rfl ?_
      refine am_aload_n dX5_half_50 rfl ?_
      refine am_getR (o' := o0a) dX5_half_51 fl_RX5_81 sh_5 rfl rfl hk_5 ?_
      refine am_iload dX5_half_54 rfl ?_
      obtain ⟨g8, h⟩ := am_grd h
      refine am_laload dX5_half_56 sh_634 hk_634 (am_inbE g8) ?_
      refine am_ladd dX5_half_57 ?_
      obtain ⟨v9, ev9, h⟩ := am_letE h
      refine am_topL ev9 ?_
      refine am_lstore_n (ls' := [(0, .inr (.inr (5, o0a, 0))), (1, .inr (.inl a1)), (3, .inr (.inl v9)), (5, .inl v7)]) dX5_half_58 (Nat.le_of_ble_eq_true rfl) rfl ?_
      refine am_goto 36 dX5_half_59 rfl ?_
      exact am_drop [0, 1, 3, 5] rfl (ih _ _ _ h KX)
def f_X5_half (M : am_M) (o : Nat) : Option (Int32 × am_M) :=
  (f_X5_waysOf M o).bind (fun r2 => am_let r2.1 (fun v3 => (if (lg_cmp v3 (0 : Int64)) = 0 then (f_X5_refuse r2.2 o (-5 : Int32)).bind (fun r15 => some (r15.1, r15.2)) else (f_X5_findSure r2.2 o).bind (fun r5 => am_let ((0 : Int64) + (r5.2 634 o 0 (0 : Int32).toNatClampNeg)) (fun v6 => (l_X5_half_36 r5 o v3 1000 v6 (0 : Int32)).bind (fun z11 => some (z11, r5)))))))
set_option maxHeartbeats 4000000 in
theorem w_X5_half {K : am_K} {d : Nat} {post : Option am_V → am_M → Prop} {M : am_M} {o : Nat} {y : Int32 × am_M} (h : f_X5_half M o = some y) (hp : post (some (.inl y.1)) y.2) : am_W K (d + 5) m_X5_half 0 [(0, .inr (.inr (5, o, 0)))] [] M post := by
  unfold f_X5_half at h
  refine am_aload_n dX5_half_0 rfl ?_
  obtain ⟨r2, c1, h⟩ := am_bnd h
  refine am_callVl (as := []) dX5_half_1 cv_RX5_279 cb_X5_waysOf sh_5 rfl hk_5 rfl rfl (Nat.le_of_ble_eq_true rfl) (c_X5_waysOf c1) ?_
  obtain ⟨v3, ev3, h⟩ := am_letE h
  refine am_topL ev3 ?_
  refine am_lstore_n (ls' := [(0, .inr (.inr (5, o, 0))), (1, .inr (.inl v3))]) dX5_half_4 (Nat.le_of_ble_eq_true rfl) rfl ?_
  refine am_lload_n dX5_half_5 rfl ?_
  refine am_lconst dX5_half_6 lc_0 ?_
  refine am_lcmp dX5_half_7 ?_
  refine am_if_ne 18 dX5_half_8 rfl (fun b16 => ?_) (fun b16 => ?_)
  · replace h := am_ifF b16 h
    refine am_aload_n dX5_half_18 rfl ?_
    obtain ⟨r5, c4, h⟩ := am_bnd h
    refine am_callVv (as := []) dX5_half_19 cv_RX5_310 cb_X5_findSure sh_5 rfl hk_5 rfl rfl (Nat.le_of_ble_eq_true rfl) (c_X5_findSure c4) ?_
    refine am_lconst dX5_half_22 lc_0 ?_
    refine am_lstore_n (ls' := [(0, .inr (.inr (5, o, 0))), (1, .inr (.inl v3)), (3, .inr (.inl (0 : Int64)))]) dX5_half_23 (Nat.le_of_ble_eq_true rfl) rfl ?_
    refine am_iconst dX5_half_24 ic_0 ?_
    refine am_istore (ls' := [(0, .inr (.inr (5, o, 0))), (1, .inr (.inl v3)), (3, .inr (.inl (0 : Int64))), (5, .inl (0 : Int32))]) dX5_half_25 (Nat.le_of_ble_eq_true rfl) rfl ?_
    refine am_lload_n dX5_half_27 rfl ?_
    refine am_aload_n dX5_half_28 rfl ?_
    refine am_getR (o' := o) dX5_half_29 fl_RX5_81 sh_5 rfl rfl hk_5 ?_
    refine am_iconst dX5_half_32 ic_0 ?_
    refine am_laload dX5_half_33 sh_634 hk_634 (am_inbE (by decide)) ?_
    refine am_ladd dX5_half_34 ?_
    obtain ⟨v6, ev6, h⟩ := am_letE h
    refine am_topL ev6 ?_
    refine am_lstore_n (ls' := [(0, .inr (.inr (5, o, 0))), (1, .inr (.inl v3)), (3, .inr (.inl v6)), (5, .inl (0 : Int32))]) dX5_half_35 (Nat.le_of_ble_eq_true rfl) rfl ?_
    obtain ⟨z11, h12, h⟩ := am_bnd h
    have KK13 : am_W K (d + 5) m_X5_half 62 [(5, .inl z11)] [] r5 post := by
      refine am_iload dX5_half_62 rfl ?_
      obtain rfl := Option.some.inj h
      exact am_ireturn dX5_half_64 rfl rfl hp
    exact am_drop [0, 1, 3, 5] rfl (wl_X5_half_36 _ _ _ _ h12 KK13)
  · replace h := am_ifT b16 h
    refine am_aload_n dX5_half_11 rfl ?_
    refine am_bipush dX5_half_12 bp_m5 ?_
    obtain ⟨r15, c14, h⟩ := am_bnd h
    refine am_callVi (as := [.inl (-5 : Int32)]) dX5_half_14 cv_RX5_103 cb_X5_refuse sh_5 rfl hk_5 rfl rfl (Nat.le_of_ble_eq_true rfl) (c_X5_refuse c14) ?_
    obtain rfl := Option.some.inj h
    exact am_ireturn dX5_half_17 rfl rfl hp
theorem c_X5_half {K : am_K} {d : Nat} {M : am_M} {o : Nat} {y : Int32 × am_M} (h : f_X5_half M o = some y) : am_Met K (d + 5) m_X5_half [.inr (.inr (5, o, 0))] M (fun q N => q = some (.inl y.1) ∧ N = y.2) :=
  am_Met_of cb_X5_half (Nat.le_of_ble_eq_true rfl) (w_X5_half h ⟨rfl, rfl⟩)
def f_X5_isSure (M : am_M) (o : Nat) : Option (Int32 × am_M) :=
  (f_X5_all M o).bind (fun r2 => am_let (am_si M 5 o 0 29 r2) (fun M3 => (f_X5_allA M3 o).bind (fun r5 => ((if ((2 : Int32) * r5) = (M3.1 5 o 0 29) then some (1 : Int32) else some (0 : Int32)) : Option (Int32)).bind (fun z6 => (f_X5_readA M3 o (M3.1 5 o 0 16)).bind (fun r11 => (f_X5_isSureAt M3 o (M3.1 5 o 0 16) r11).bind (fun r13 => (if r13 = 0 then (if z6 = 0 then some ((0 : Int32), M3) else (if (M3.1 5 o 0 16) = (M3.1 5 o 0 29) then some ((1 : Int32), M3) else some ((0 : Int32), M3))) else some ((1 : Int32), M3))))))))
set_option maxHeartbeats 4000000 in
theorem w_X5_isSure {K : am_K} {d : Nat} {post : Option am_V → am_M → Prop} {M : am_M} {o : Nat} {y : Int32 × am_M} (h : f_X5_isSure M o = some y) (hp : post (some (.inl y.1)) y.2) : am_W K (d + 2) m_X5_isSure 0 [(0, .inr (.inr (5, o, 0)))] [] M post := by
  unfold f_X5_isSure at h
  refine am_aload_n dX5_isSure_0 rfl ?_
  refine am_aload_n dX5_isSure_1 rfl ?_
  obtain ⟨r2, c1, h⟩ := am_bnd h
  refine am_callVi (as := []) dX5_isSure_2 cv_RX5_140 cb_X5_all sh_5 rfl hk_5 rfl rfl (Nat.le_of_ble_eq_true rfl) (c_X5_all c1) ?_
  obtain ⟨M3, eM3, h⟩ := am_letE h
  refine am_putI dX5_isSure_5 fl_RX5_254 fp_X5_29 sh_5 rfl rfl rfl hk_5 ?_
  refine am_mem eM3 ?_
  refine am_iconst dX5_isSure_8 ic_2 ?_
  refine am_aload_n dX5_isSure_9 rfl ?_
  obtain ⟨r5, c4, h⟩ := am_bnd h
  refine am_callVi (as := []) dX5_isSure_10 cv_RX5_133 cb_X5_allA sh_5 rfl hk_5 rfl rfl (Nat.le_of_ble_eq_true rfl) (c_X5_allA c4) ?_
  refine am_imul dX5_isSure_13 ?_
  refine am_aload_n dX5_isSure_14 rfl ?_
  refine am_getI dX5_isSure_15 fl_RX5_254 sh_5 rfl hk_5 ?_
  obtain ⟨z6, h7, h⟩ := am_bnd h
  have KK8 : am_W K (d + 2) m_X5_isSure 26 [(0, .inr (.inr (5, o, 0)))] [.inl z6] M3 post := by
    refine am_istore_n (ls' := [(0, .inr (.inr (5, o, 0))), (1, .inl z6)]) dX5_isSure_26 (Nat.le_of_ble_eq_true rfl) rfl ?_
    refine am_aload_n dX5_isSure_27 rfl ?_
    refine am_aload_n dX5_isSure_28 rfl ?_
    refine am_getI dX5_isSure_29 fl_RX5_137 sh_5 rfl hk_5 ?_
    refine am_aload_n dX5_isSure_32 rfl ?_
    refine am_aload_n dX5_isSure_33 rfl ?_
    refine am_getI dX5_isSure_34 fl_RX5_137 sh_5 rfl hk_5 ?_
    obtain ⟨r11, c10, h⟩ := am_bnd h
    refine am_callVi (as := [.inl (M3.1 5 o 0 16)]) dX5_isSure_37 cv_RX5_257 cb_X5_readA sh_5 rfl hk_5 rfl rfl (Nat.le_of_ble_eq_true rfl) (c_X5_readA c10) ?_
    obtain ⟨r13, c12, h⟩ := am_bnd h
    refine am_callVi (as := [.inl (M3.1 5 o 0 16), .inl r11]) dX5_isSure_40 cv_RX5_307 cb_X5_isSureAt sh_5 rfl hk_5 rfl rfl (Nat.le_of_ble_eq_true rfl) (c_X5_isSureAt c12) ?_
    refine am_if_ne 61 dX5_isSure_43 rfl (fun b16 => ?_) (fun b16 => ?_)
    · replace h := am_ifF b16 h
      refine am_iconst dX5_isSure_61 ic_1 ?_
      refine am_goto 66 dX5_isSure_62 rfl ?_
      obtain rfl := Option.some.inj h
      exact am_ireturn dX5_isSure_66 rfl rfl hp
    · replace h := am_ifT b16 h
      refine am_iload_n dX5_isSure_46 rfl ?_
      refine am_if_eq 65 dX5_isSure_47 rfl (fun b15 => ?_) (fun b15 => ?_)
      · replace h := am_ifT b15 h
        refine am_iconst dX5_isSure_65 ic_0 ?_
        obtain rfl := Option.some.inj h
        exact am_ireturn dX5_isSure_66 rfl rfl hp
      · replace h := am_ifF b15 h
        refine am_aload_n dX5_isSure_50 rfl ?_
        refine am_getI dX5_isSure_51 fl_RX5_137 sh_5 rfl hk_5 ?_
        refine am_aload_n dX5_isSure_54 rfl ?_
        refine am_getI dX5_isSure_55 fl_RX5_254 sh_5 rfl hk_5 ?_
        refine am_icmp_ne 65 dX5_isSure_58 rfl (fun b14 => ?_) (fun b14 => ?_)
        · replace h := am_ifF b14 h
          refine am_iconst dX5_isSure_65 ic_0 ?_
          obtain rfl := Option.some.inj h
          exact am_ireturn dX5_isSure_66 rfl rfl hp
        · replace h := am_ifT b14 h
          refine am_iconst dX5_isSure_61 ic_1 ?_
          refine am_goto 66 dX5_isSure_62 rfl ?_
          obtain rfl := Option.some.inj h
          exact am_ireturn dX5_isSure_66 rfl rfl hp
  clear h
  refine am_icmp_ne 25 dX5_isSure_18 rfl (fun b9 => ?_) (fun b9 => ?_)
  · replace h7 := am_ifF b9 h7
    refine am_iconst dX5_isSure_25 ic_0 ?_
    obtain rfl := Option.some.inj h7
    exact am_drop [0] rfl KK8
  · replace h7 := am_ifT b9 h7
    refine am_iconst dX5_isSure_21 ic_1 ?_
    refine am_goto 26 dX5_isSure_22 rfl ?_
    obtain rfl := Option.some.inj h7
    exact am_drop [0] rfl KK8
theorem c_X5_isSure {K : am_K} {d : Nat} {M : am_M} {o : Nat} {y : Int32 × am_M} (h : f_X5_isSure M o = some y) : am_Met K (d + 2) m_X5_isSure [.inr (.inr (5, o, 0))] M (fun q N => q = some (.inl y.1) ∧ N = y.2) :=
  am_Met_of cb_X5_isSure (Nat.le_of_ble_eq_true rfl) (w_X5_isSure h ⟨rfl, rfl⟩)
def l_X5_head_7 (o0a : Nat) : Nat → Int32 → Int64 → Int32 → am_M → Option (Int32 × am_M)
  | 0, _, _, _, _ => none
  | n + 1, a1, a2, a4, M => (if (8 : Int32) ≤ a4 then some (a1, M) else if am_inb a4 8 = true then ((if (M.1 600 o0a 0 a4.toNatClampNeg) = (2 : Int32) then if am_inb a4 8 = true then if am_inb a4 8 = true then (f_X5_drawn M o0a (M.1 605 o0a 0 a4.toNatClampNeg) (M.1 606 o0a 0 a4.toNatClampNeg)).bind (fun r8 => am_let r8.1 (fun v9 => (if a1 = (-1 : Int32) then some (a4, v9, r8.2) else (if (lg_cmp v9 a2) ≤ 0 then some (a1, a2, r8.2) else some (a4, v9, r8.2))))) else none else none else some (a1, a2, M)) : Option (Int32 × Int64 × am_M)).bind (fun z2 => am_let (a4 + (1 : Int32)) (fun v13 => l_X5_head_7 o0a n z2.1 z2.2.1 v13 z2.2.2)) else none)
set_option maxHeartbeats 4000000 in
theorem wl_X5_head_7 {K : am_K} {d : Nat} {post : Option am_V → am_M → Prop} {o0a : Nat} : ∀ (n : Nat) (a1 : Int32) (a2 : Int64) (a4 : Int32) (M : am_M) (x : Int32 × am_M), l_X5_head_7 o0a n a1 a2 a4 M = some x → am_W K (d + 5) m_X5_head 69 [(0, .inr (.inr (5, o0a, 0))), (1, .inl x.1)] [] x.2 post → am_W K (d + 5) m_X5_head 7 [(0, .inr (.inr (5, o0a, 0))), (1, .inl a1), (2, .inr (.inl a2)), (4, .inl a4)] [] M post := by
  intro n
  induction n with
  | zero => intro a1 a2 a4 M x h KX; cases h
  | succ n ih =>
    intro a1 a2 a4 M x h KX
    rw [l_X5_head_7] at h
    refine am_iload dX5_head_7 rfl ?_
    refine am_bipush dX5_head_9 bp_8 ?_
    refine am_icmp_ge 69 dX5_head_11 rfl (fun b14 => ?_) (fun b14 => ?_)
    · replace h := am_ifT b14 h
      obtain rfl := Option.some.inj h
      exact am_drop [0, 1] rfl KX
    · replace h := am_ifF b14 h
      refine am_aload_n dX5_head_14 rfl ?_
      refine am_getR (o' := o0a) dX5_head_15 fl_RX5_7 sh_5 rfl rfl hk_5 ?_
      refine am_iload dX5_head_18 rfl ?_
      obtain ⟨g1, h⟩ := am_grd h
      refine am_iaload dX5_head_20 sh_600 hk_600 (am_inbE g1) ?_
      refine am_iconst dX5_head_21 ic_2 ?_
      obtain ⟨z2, h3, h⟩ := am_bnd h
      have KK4 : am_W K (d + 5) m_X5_head 63 [(0, .inr (.inr (5, o0a, 0))), (1, .inl z2.1), (2, .inr (.inl z2.2.1)), (4, .inl a4)] [] z2.2.2 post := by
        obtain ⟨v13, ev13, h⟩ := am_letE h
        refine am_iinc (ls' := [(0, .inr (.inr (5, o0a, 0))), (1, .inl z2.1), (2, .inr (.inl z2.2.1)), (4, .inl v13)]) dX5_head_63 rfl ((congrArg (fun z => a4 + z) ic_1).trans ev13.symm) (Nat.le_of_ble_eq_true rfl) rfl ?_
        refine am_goto 7 dX5_head_66 rfl ?_
        exact am_drop [0, 1, 2, 4] rfl (ih _ _ _ _ _ h KX)
      clear h
      refine am_icmp_ne 63 dX5_head_22 rfl (fun b12 => ?_) (fun b12 => ?_)
      · replace h3 := am_ifF b12 h3
        obtain rfl := Option.some.inj h3
        exact am_drop [0, 1, 2, 4] rfl KK4
      · replace h3 := am_ifT b12 h3
        refine am_aload_n dX5_head_25 rfl ?_
        refine am_aload_n dX5_head_26 rfl ?_
        refine am_getR (o' := o0a) dX5_head_27 fl_RX5_28 sh_5 rfl rfl hk_5 ?_
        refine am_iload dX5_head_30 rfl ?_
        obtain ⟨g5, h3⟩ := am_grd h3
        refine am_iaload dX5_head_32 sh_605 hk_605 (am_inbE g5) ?_
        refine am_aload_n dX5_head_33 rfl ?_
        refine am_getR (o' := o0a) dX5_head_34 fl_RX5_31 sh_5 rfl rfl hk_5 ?_
        refine am_iload dX5_head_37 rfl ?_
        obtain ⟨g6, h3⟩ := am_grd h3
        refine am_iaload dX5_head_39 sh_606 hk_606 (am_inbE g6) ?_
        obtain ⟨r8, c7, h3⟩ := am_bnd h3
        refine am_callVl (as := [.inl (M.1 605 o0a 0 a4.toNatClampNeg), .inl (M.1 606 o0a 0 a4.toNatClampNeg)]) dX5_head_40 cv_RX5_126 cb_X5_drawn sh_5 rfl hk_5 rfl rfl (Nat.le_of_ble_eq_true rfl) (c_X5_drawn c7) ?_
        obtain ⟨v9, ev9, h3⟩ := am_letE h3
        refine am_topL ev9 ?_
        refine am_lstore (ls' := [(0, .inr (.inr (5, o0a, 0))), (1, .inl a1), (2, .inr (.inl a2)), (4, .inl a4), (5, .inr (.inl v9))]) dX5_head_43 (Nat.le_of_ble_eq_true rfl) rfl ?_
        refine am_iload_n dX5_head_45 rfl ?_
        refine am_iconst dX5_head_46 ic_m1 ?_
        refine am_icmp_eq 57 dX5_head_47 rfl (fun b11 => ?_) (fun b11 => ?_)
        · replace h3 := am_ifT b11 h3
          refine am_iload dX5_head_57 rfl ?_
          refine am_istore_n (ls' := [(0, .inr (.inr (5, o0a, 0))), (1, .inl a4), (2, .inr (.inl a2)), (4, .inl a4), (5, .inr (.inl v9))]) dX5_head_59 (Nat.le_of_ble_eq_true rfl) rfl ?_
          refine am_lload dX5_head_60 rfl ?_
          refine am_lstore_n (ls' := [(0, .inr (.inr (5, o0a, 0))), (1, .inl a4), (2, .inr (.inl v9)), (4, .inl a4), (5, .inr (.inl v9))]) dX5_head_62 (Nat.le_of_ble_eq_true rfl) rfl ?_
          obtain rfl := Option.some.inj h3
          exact am_drop [0, 1, 2, 4] rfl KK4
        · replace h3 := am_ifF b11 h3
          refine am_lload dX5_head_50 rfl ?_
          refine am_lload_n dX5_head_52 rfl ?_
          refine am_lcmp dX5_head_53 ?_
          refine am_if_le 63 dX5_head_54 rfl (fun b10 => ?_) (fun b10 => ?_)
          · replace h3 := am_ifT b10 h3
            obtain rfl := Option.some.inj h3
            exact am_drop [0, 1, 2, 4] rfl KK4
          · replace h3 := am_ifF b10 h3
            refine am_iload dX5_head_57 rfl ?_
            refine am_istore_n (ls' := [(0, .inr (.inr (5, o0a, 0))), (1, .inl a4), (2, .inr (.inl a2)), (4, .inl a4), (5, .inr (.inl v9))]) dX5_head_59 (Nat.le_of_ble_eq_true rfl) rfl ?_
            refine am_lload dX5_head_60 rfl ?_
            refine am_lstore_n (ls' := [(0, .inr (.inr (5, o0a, 0))), (1, .inl a4), (2, .inr (.inl v9)), (4, .inl a4), (5, .inr (.inl v9))]) dX5_head_62 (Nat.le_of_ble_eq_true rfl) rfl ?_
            obtain rfl := Option.some.inj h3
            exact am_drop [0, 1, 2, 4] rfl KK4
def f_X5_head (M : am_M) (o : Nat) : Option (Int32 × am_M) :=
  (l_X5_head_7 o 1000 (-1 : Int32) (0 : Int64) (0 : Int32) M).bind (fun z15 => (if z15.1 = (-1 : Int32) then (f_X5_refuse z15.2 o (-5 : Int32)).bind (fun r19 => some (r19.1, r19.2)) else some (z15.1, z15.2)))
set_option maxHeartbeats 4000000 in
theorem w_X5_head {K : am_K} {d : Nat} {post : Option am_V → am_M → Prop} {M : am_M} {o : Nat} {y : Int32 × am_M} (h : f_X5_head M o = some y) (hp : post (some (.inl y.1)) y.2) : am_W K (d + 5) m_X5_head 0 [(0, .inr (.inr (5, o, 0)))] [] M post := by
  unfold f_X5_head at h
  refine am_iconst dX5_head_0 ic_m1 ?_
  refine am_istore_n (ls' := [(0, .inr (.inr (5, o, 0))), (1, .inl (-1 : Int32))]) dX5_head_1 (Nat.le_of_ble_eq_true rfl) rfl ?_
  refine am_lconst dX5_head_2 lc_0 ?_
  refine am_lstore_n (ls' := [(0, .inr (.inr (5, o, 0))), (1, .inl (-1 : Int32)), (2, .inr (.inl (0 : Int64)))]) dX5_head_3 (Nat.le_of_ble_eq_true rfl) rfl ?_
  refine am_iconst dX5_head_4 ic_0 ?_
  refine am_istore (ls' := [(0, .inr (.inr (5, o, 0))), (1, .inl (-1 : Int32)), (2, .inr (.inl (0 : Int64))), (4, .inl (0 : Int32))]) dX5_head_5 (Nat.le_of_ble_eq_true rfl) rfl ?_
  obtain ⟨z15, h16, h⟩ := am_bnd h
  have KK17 : am_W K (d + 5) m_X5_head 69 [(0, .inr (.inr (5, o, 0))), (1, .inl z15.1)] [] z15.2 post := by
    refine am_iload_n dX5_head_69 rfl ?_
    refine am_iconst dX5_head_70 ic_m1 ?_
    refine am_icmp_ne 83 dX5_head_71 rfl (fun b20 => ?_) (fun b20 => ?_)
    · replace h := am_ifF b20 h
      refine am_iload_n dX5_head_83 rfl ?_
      obtain rfl := Option.some.inj h
      exact am_ireturn dX5_head_84 rfl rfl hp
    · replace h := am_ifT b20 h
      refine am_aload_n dX5_head_74 rfl ?_
      refine am_bipush dX5_head_75 bp_m5 ?_
      obtain ⟨r19, c18, h⟩ := am_bnd h
      refine am_callVi (as := [.inl (-5 : Int32)]) dX5_head_77 cv_RX5_103 cb_X5_refuse sh_5 rfl hk_5 rfl rfl (Nat.le_of_ble_eq_true rfl) (c_X5_refuse c18) ?_
      refine am_goto 84 dX5_head_80 rfl ?_
      obtain rfl := Option.some.inj h
      exact am_ireturn dX5_head_84 rfl rfl hp
  exact am_drop [0, 1, 2, 4] rfl (wl_X5_head_7 _ _ _ _ _ _ h16 KK17)
theorem c_X5_head {K : am_K} {d : Nat} {M : am_M} {o : Nat} {y : Int32 × am_M} (h : f_X5_head M o = some y) : am_Met K (d + 5) m_X5_head [.inr (.inr (5, o, 0))] M (fun q N => q = some (.inl y.1) ∧ N = y.2) :=
  am_Met_of cb_X5_head (Nat.le_of_ble_eq_true rfl) (w_X5_head h ⟨rfl, rfl⟩)
def l_X5_noRoom_8 (M : am_M) (o0a : Nat) (a1 : Int32) : Nat → Int32 → Int32 → Option (Int32 × am_M)
  | 0, _, _ => none
  | n + 1, a2, a3 => if am_inb a1 8 = true then (if (M.1 602 o0a 0 a1.toNatClampNeg) ≤ a3 then some ((-1 : Int32), M) else if am_inb a1 8 = true then if am_inb a3 40 = true then am_let (M.2 703 o0a a1.toNatClampNeg a3.toNatClampNeg) (fun v6 => (f_X5_in M v6 (0 : Int64) (1 : Int64)).bind (fun r8 => (if r8 = 0 then some (a3, M) else (if (M.1 5 o0a 0 29) ≤ a3 then some (a3, M) else (if a3 = 0 then (if (M.1 728 o0a (0 : Int32).toNatClampNeg (0 : Int32).toNatClampNeg) = 0 then some (a3, M) else am_let (a2 + v6.toInt32) (fun v14 => if am_inb (a3 + (1 : Int32)) 25 = true then if am_inb v14 25 = true then (if (M.1 728 o0a (a3 + (1 : Int32)).toNatClampNeg v14.toNatClampNeg) = 0 then some (a3, M) else am_let (a3 + (1 : Int32)) (fun v17 => l_X5_noRoom_8 M o0a a1 n v14 v17)) else none else none)) else am_let (a2 + v6.toInt32) (fun v9 => if am_inb (a3 + (1 : Int32)) 25 = true then if am_inb v9 25 = true then (if (M.1 728 o0a (a3 + (1 : Int32)).toNatClampNeg v9.toNatClampNeg) = 0 then some (a3, M) else am_let (a3 + (1 : Int32)) (fun v12 => l_X5_noRoom_8 M o0a a1 n v9 v12)) else none else none)))))) else none else none) else none
set_option maxHeartbeats 4000000 in
theorem wl_X5_noRoom_8 {K : am_K} {d : Nat} {post : Option am_V → am_M → Prop} {M : am_M} {o0a : Nat} {a1 : Int32} : ∀ (n : Nat) (a2 : Int32) (a3 : Int32) (y : Int32 × am_M), l_X5_noRoom_8 M o0a a1 n a2 a3 = some y → post (some (.inl y.1)) y.2 → am_W K (d + 4) m_X5_noRoom 8 [(0, .inr (.inr (5, o0a, 0))), (1, .inl a1), (2, .inl a2), (3, .inl a3)] [] M post := by
  intro n
  induction n with
  | zero => intro a2 a3 y h hp; cases h
  | succ n ih =>
    intro a2 a3 y h hp
    rw [l_X5_noRoom_8] at h
    refine am_iload_n dX5_noRoom_8 rfl ?_
    refine am_aload_n dX5_noRoom_9 rfl ?_
    refine am_getR (o' := o0a) dX5_noRoom_10 fl_RX5_16 sh_5 rfl rfl hk_5 ?_
    refine am_iload_n dX5_noRoom_13 rfl ?_
    obtain ⟨g3, h⟩ := am_grd h
    refine am_iaload dX5_noRoom_14 sh_602 hk_602 (am_inbE g3) ?_
    refine am_icmp_ge 90 dX5_noRoom_15 rfl (fun b23 => ?_) (fun b23 => ?_)
    · replace h := am_ifT b23 h
      refine am_iconst dX5_noRoom_90 ic_m1 ?_
      obtain rfl := Option.some.inj h
      exact am_ireturn dX5_noRoom_91 rfl rfl hp
    · replace h := am_ifF b23 h
      refine am_aload_n dX5_noRoom_18 rfl ?_
      refine am_getR (o' := o0a) dX5_noRoom_19 fl_RX5_21 sh_5 rfl rfl hk_5 ?_
      refine am_iload_n dX5_noRoom_22 rfl ?_
      obtain ⟨g4, h⟩ := am_grd h
      refine am_aaload dX5_noRoom_23 sh_603 rfl rfl hk_603 (am_inbE g4) ?_
      refine am_top (w := .inr (.inr (703, o0a, a1.toNatClampNeg))) rfl ?_
      refine am_iload_n dX5_noRoom_24 rfl ?_
      obtain ⟨g5, h⟩ := am_grd h
      refine am_laload dX5_noRoom_25 sh_703 hk_703 (am_inbE g5) ?_
      obtain ⟨v6, ev6, h⟩ := am_letE h
      refine am_topL ev6 ?_
      refine am_lstore (ls' := [(0, .inr (.inr (5, o0a, 0))), (1, .inl a1), (2, .inl a2), (3, .inl a3), (4, .inr (.inl v6))]) dX5_noRoom_26 (Nat.le_of_ble_eq_true rfl) rfl ?_
      refine am_lload dX5_noRoom_28 rfl ?_
      refine am_lconst dX5_noRoom_30 lc_0 ?_
      refine am_lconst dX5_noRoom_31 lc_1 ?_
      obtain ⟨r8, c7, h⟩ := am_bnd h
      refine am_callSi (as := [.inr (.inl v6), .inr (.inl (0 : Int64)), .inr (.inl (1 : Int64))]) dX5_noRoom_32 cs_RX5_95 cb_X5_in rfl rfl (Nat.le_of_ble_eq_true rfl) (c_X5_in c7) ?_
      refine am_if_eq 61 dX5_noRoom_35 rfl (fun b22 => ?_) (fun b22 => ?_)
      · replace h := am_ifT b22 h
        refine am_iload_n dX5_noRoom_61 rfl ?_
        obtain rfl := Option.some.inj h
        exact am_ireturn dX5_noRoom_62 rfl rfl hp
      · replace h := am_ifF b22 h
        refine am_iload_n dX5_noRoom_38 rfl ?_
        refine am_aload_n dX5_noRoom_39 rfl ?_
        refine am_getI dX5_noRoom_40 fl_RX5_254 sh_5 rfl hk_5 ?_
        refine am_icmp_ge 61 dX5_noRoom_43 rfl (fun b21 => ?_) (fun b21 => ?_)
        · replace h := am_ifT b21 h
          refine am_iload_n dX5_noRoom_61 rfl ?_
          obtain rfl := Option.some.inj h
          exact am_ireturn dX5_noRoom_62 rfl rfl hp
        · replace h := am_ifF b21 h
          refine am_iload_n dX5_noRoom_46 rfl ?_
          refine am_if_ne 63 dX5_noRoom_47 rfl (fun b20 => ?_) (fun b20 => ?_)
          · replace h := am_ifF b20 h
            refine am_iload_n dX5_noRoom_63 rfl ?_
            refine am_lload dX5_noRoom_64 rfl ?_
            refine am_l2i dX5_noRoom_66 ?_
            refine am_iadd dX5_noRoom_67 ?_
            obtain ⟨v9, ev9, h⟩ := am_letE h
            refine am_topI ev9 ?_
            refine am_istore_n (ls' := [(0, .inr (.inr (5, o0a, 0))), (1, .inl a1), (2, .inl v9), (3, .inl a3), (4, .inr (.inl v6))]) dX5_noRoom_68 (Nat.le_of_ble_eq_true rfl) rfl ?_
            refine am_aload_n dX5_noRoom_69 rfl ?_
            refine am_getR (o' := o0a) dX5_noRoom_70 fl_RX5_66 sh_5 rfl rfl hk_5 ?_
            refine am_iload_n dX5_noRoom_73 rfl ?_
            refine am_iconst dX5_noRoom_74 ic_1 ?_
            refine am_iadd dX5_noRoom_75 ?_
            obtain ⟨g10, h⟩ := am_grd h
            refine am_aaload dX5_noRoom_76 sh_628 rfl rfl hk_628 (am_inbE g10) ?_
            refine am_top (w := .inr (.inr (728, o0a, (a3 + (1 : Int32)).toNatClampNeg))) rfl ?_
            refine am_iload_n dX5_noRoom_77 rfl ?_
            obtain ⟨g11, h⟩ := am_grd h
            refine am_zaload dX5_noRoom_78 sh_728 hk_728 (am_inbE g11) ?_
            refine am_if_ne 84 dX5_noRoom_79 rfl (fun b13 => ?_) (fun b13 => ?_)
            · replace h := am_ifF b13 h
              obtain ⟨v12, ev12, h⟩ := am_letE h
              refine am_iinc (ls' := [(0, .inr (.inr (5, o0a, 0))), (1, .inl a1), (2, .inl v9), (3, .inl v12), (4, .inr (.inl v6))]) dX5_noRoom_84 rfl ((congrArg (fun z => a3 + z) ic_1).trans ev12.symm) (Nat.le_of_ble_eq_true rfl) rfl ?_
              refine am_goto 8 dX5_noRoom_87 rfl ?_
              exact am_drop [0, 1, 2, 3] rfl (ih _ _ _ h hp)
            · replace h := am_ifT b13 h
              refine am_iload_n dX5_noRoom_82 rfl ?_
              obtain rfl := Option.some.inj h
              exact am_ireturn dX5_noRoom_83 rfl rfl hp
          · replace h := am_ifT b20 h
            refine am_aload_n dX5_noRoom_50 rfl ?_
            refine am_getR (o' := o0a) dX5_noRoom_51 fl_RX5_66 sh_5 rfl rfl hk_5 ?_
            refine am_iconst dX5_noRoom_54 ic_0 ?_
            refine am_aaload dX5_noRoom_55 sh_628 rfl rfl hk_628 (am_inbE (by decide)) ?_
            refine am_top (w := .inr (.inr (728, o0a, (0 : Int32).toNatClampNeg))) rfl ?_
            refine am_iconst dX5_noRoom_56 ic_0 ?_
            refine am_zaload dX5_noRoom_57 sh_728 hk_728 (am_inbE (by decide)) ?_
            refine am_if_ne 63 dX5_noRoom_58 rfl (fun b19 => ?_) (fun b19 => ?_)
            · replace h := am_ifF b19 h
              refine am_iload_n dX5_noRoom_63 rfl ?_
              refine am_lload dX5_noRoom_64 rfl ?_
              refine am_l2i dX5_noRoom_66 ?_
              refine am_iadd dX5_noRoom_67 ?_
              obtain ⟨v14, ev14, h⟩ := am_letE h
              refine am_topI ev14 ?_
              refine am_istore_n (ls' := [(0, .inr (.inr (5, o0a, 0))), (1, .inl a1), (2, .inl v14), (3, .inl a3), (4, .inr (.inl v6))]) dX5_noRoom_68 (Nat.le_of_ble_eq_true rfl) rfl ?_
              refine am_aload_n dX5_noRoom_69 rfl ?_
              refine am_getR (o' := o0a) dX5_noRoom_70 fl_RX5_66 sh_5 rfl rfl hk_5 ?_
              refine am_iload_n dX5_noRoom_73 rfl ?_
              refine am_iconst dX5_noRoom_74 ic_1 ?_
              refine am_iadd dX5_noRoom_75 ?_
              obtain ⟨g15, h⟩ := am_grd h
              refine am_aaload dX5_noRoom_76 sh_628 rfl rfl hk_628 (am_inbE g15) ?_
              refine am_top (w := .inr (.inr (728, o0a, (a3 + (1 : Int32)).toNatClampNeg))) rfl ?_
              refine am_iload_n dX5_noRoom_77 rfl ?_
              obtain ⟨g16, h⟩ := am_grd h
              refine am_zaload dX5_noRoom_78 sh_728 hk_728 (am_inbE g16) ?_
              refine am_if_ne 84 dX5_noRoom_79 rfl (fun b18 => ?_) (fun b18 => ?_)
              · replace h := am_ifF b18 h
                obtain ⟨v17, ev17, h⟩ := am_letE h
                refine am_iinc (ls' := [(0, .inr (.inr (5, o0a, 0))), (1, .inl a1), (2, .inl v14), (3, .inl v17), (4, .inr (.inl v6))]) dX5_noRoom_84 rfl ((congrArg (fun z => a3 + z) ic_1).trans ev17.symm) (Nat.le_of_ble_eq_true rfl) rfl ?_
                refine am_goto 8 dX5_noRoom_87 rfl ?_
                exact am_drop [0, 1, 2, 3] rfl (ih _ _ _ h hp)
              · replace h := am_ifT b18 h
                refine am_iload_n dX5_noRoom_82 rfl ?_
                obtain rfl := Option.some.inj h
                exact am_ireturn dX5_noRoom_83 rfl rfl hp
            · replace h := am_ifT b19 h
              refine am_iload_n dX5_noRoom_61 rfl ?_
              obtain rfl := Option.some.inj h
              exact am_ireturn dX5_noRoom_62 rfl rfl hp
def f_X5_noRoom (M : am_M) (o : Nat) (x1 : Int32) : Option (Int32 × am_M) :=
  (f_X5_seeAll M o).bind (fun r2 => l_X5_noRoom_8 r2 o x1 1000 (0 : Int32) (0 : Int32))
set_option maxHeartbeats 4000000 in
theorem w_X5_noRoom {K : am_K} {d : Nat} {post : Option am_V → am_M → Prop} {M : am_M} {o : Nat} {x1 : Int32} {y : Int32 × am_M} (h : f_X5_noRoom M o x1 = some y) (hp : post (some (.inl y.1)) y.2) : am_W K (d + 4) m_X5_noRoom 0 [(0, .inr (.inr (5, o, 0))), (1, .inl x1)] [] M post := by
  unfold f_X5_noRoom at h
  refine am_aload_n dX5_noRoom_0 rfl ?_
  obtain ⟨r2, c1, h⟩ := am_bnd h
  refine am_callVv (as := []) dX5_noRoom_1 cv_RX5_276 cb_X5_seeAll sh_5 rfl hk_5 rfl rfl (Nat.le_of_ble_eq_true rfl) (c_X5_seeAll c1) ?_
  refine am_iconst dX5_noRoom_4 ic_0 ?_
  refine am_istore_n (ls' := [(0, .inr (.inr (5, o, 0))), (1, .inl x1), (2, .inl (0 : Int32))]) dX5_noRoom_5 (Nat.le_of_ble_eq_true rfl) rfl ?_
  refine am_iconst dX5_noRoom_6 ic_0 ?_
  refine am_istore_n (ls' := [(0, .inr (.inr (5, o, 0))), (1, .inl x1), (2, .inl (0 : Int32)), (3, .inl (0 : Int32))]) dX5_noRoom_7 (Nat.le_of_ble_eq_true rfl) rfl ?_
  exact am_drop [0, 1, 2, 3] rfl (wl_X5_noRoom_8 _ _ _ _ h hp)
theorem c_X5_noRoom {K : am_K} {d : Nat} {M : am_M} {o : Nat} {x1 : Int32} {y : Int32 × am_M} (h : f_X5_noRoom M o x1 = some y) : am_Met K (d + 4) m_X5_noRoom [.inr (.inr (5, o, 0)), .inl x1] M (fun q N => q = some (.inl y.1) ∧ N = y.2) :=
  am_Met_of cb_X5_noRoom (Nat.le_of_ble_eq_true rfl) (w_X5_noRoom h ⟨rfl, rfl⟩)
def f_X5_judge (M : am_M) (o : Nat) (x1 : Int32) : Option (Int32 × am_M) :=
  (f_X5_noRow M o x1).bind (fun r2 => am_let r2.1 (fun v3 => (if v3 = 0 then (f_X5_noRoom r2.2 o x1).bind (fun r5 => some (r5.1, r5.2)) else some (v3, r2.2))))
set_option maxHeartbeats 4000000 in
theorem w_X5_judge {K : am_K} {d : Nat} {post : Option am_V → am_M → Prop} {M : am_M} {o : Nat} {x1 : Int32} {y : Int32 × am_M} (h : f_X5_judge M o x1 = some y) (hp : post (some (.inl y.1)) y.2) : am_W K (d + 5) m_X5_judge 0 [(0, .inr (.inr (5, o, 0))), (1, .inl x1)] [] M post := by
  unfold f_X5_judge at h
  refine am_aload_n dX5_judge_0 rfl ?_
  refine am_iload_n dX5_judge_1 rfl ?_
  obtain ⟨r2, c1, h⟩ := am_bnd h
  refine am_callVi (as := [.inl x1]) dX5_judge_2 cv_RX5_107 cb_X5_noRow sh_5 rfl hk_5 rfl rfl (Nat.le_of_ble_eq_true rfl) (c_X5_noRow c1) ?_
  obtain ⟨v3, ev3, h⟩ := am_letE h
  refine am_topI ev3 ?_
  refine am_istore_n (ls' := [(0, .inr (.inr (5, o, 0))), (1, .inl x1), (2, .inl v3)]) dX5_judge_5 (Nat.le_of_ble_eq_true rfl) rfl ?_
  refine am_iload_n dX5_judge_6 rfl ?_
  refine am_if_eq 14 dX5_judge_7 rfl (fun b6 => ?_) (fun b6 => ?_)
  · replace h := am_ifT b6 h
    refine am_aload_n dX5_judge_14 rfl ?_
    refine am_iload_n dX5_judge_15 rfl ?_
    obtain ⟨r5, c4, h⟩ := am_bnd h
    refine am_callVi (as := [.inl x1]) dX5_judge_16 cv_RX5_330 cb_X5_noRoom sh_5 rfl hk_5 rfl rfl (Nat.le_of_ble_eq_true rfl) (c_X5_noRoom c4) ?_
    obtain rfl := Option.some.inj h
    exact am_ireturn dX5_judge_19 rfl rfl hp
  · replace h := am_ifF b6 h
    refine am_iload_n dX5_judge_10 rfl ?_
    refine am_goto 19 dX5_judge_11 rfl ?_
    obtain rfl := Option.some.inj h
    exact am_ireturn dX5_judge_19 rfl rfl hp
theorem c_X5_judge {K : am_K} {d : Nat} {M : am_M} {o : Nat} {x1 : Int32} {y : Int32 × am_M} (h : f_X5_judge M o x1 = some y) : am_Met K (d + 5) m_X5_judge [.inr (.inr (5, o, 0)), .inl x1] M (fun q N => q = some (.inl y.1) ∧ N = y.2) :=
  am_Met_of cb_X5_judge (Nat.le_of_ble_eq_true rfl) (w_X5_judge h ⟨rfl, rfl⟩)
def f_X5_noWhole (M : am_M) (o : Nat) (x1 : Int32) : Option (Int32 × am_M) :=
  (f_X5_noRow M o x1).bind (fun r2 => am_let r2.1 (fun v3 => (if v3 = 0 then (f_X5_noRoom r2.2 o x1).bind (fun r5 => (if r5.1 = (-1 : Int32) then if am_inb x1 8 = true then (if (r5.2.1 602 o 0 x1.toNatClampNeg) = (r5.2.1 5 o 0 29) then some ((0 : Int32), r5.2) else (f_X5_refuse r5.2 o (-5 : Int32)).bind (fun r10 => some (r10.1, r10.2))) else none else (f_X5_refuse r5.2 o (-5 : Int32)).bind (fun r7 => some (r7.1, r7.2)))) else some (v3, r2.2))))
set_option maxHeartbeats 4000000 in
theorem w_X5_noWhole {K : am_K} {d : Nat} {post : Option am_V → am_M → Prop} {M : am_M} {o : Nat} {x1 : Int32} {y : Int32 × am_M} (h : f_X5_noWhole M o x1 = some y) (hp : post (some (.inl y.1)) y.2) : am_W K (d + 5) m_X5_noWhole 0 [(0, .inr (.inr (5, o, 0))), (1, .inl x1)] [] M post := by
  unfold f_X5_noWhole at h
  refine am_aload_n dX5_noWhole_0 rfl ?_
  refine am_iload_n dX5_noWhole_1 rfl ?_
  obtain ⟨r2, c1, h⟩ := am_bnd h
  refine am_callVi (as := [.inl x1]) dX5_noWhole_2 cv_RX5_107 cb_X5_noRow sh_5 rfl hk_5 rfl rfl (Nat.le_of_ble_eq_true rfl) (c_X5_noRow c1) ?_
  obtain ⟨v3, ev3, h⟩ := am_letE h
  refine am_topI ev3 ?_
  refine am_istore_n (ls' := [(0, .inr (.inr (5, o, 0))), (1, .inl x1), (2, .inl v3)]) dX5_noWhole_5 (Nat.le_of_ble_eq_true rfl) rfl ?_
  refine am_iload_n dX5_noWhole_6 rfl ?_
  refine am_if_eq 12 dX5_noWhole_7 rfl (fun b13 => ?_) (fun b13 => ?_)
  · replace h := am_ifT b13 h
    refine am_aload_n dX5_noWhole_12 rfl ?_
    refine am_iload_n dX5_noWhole_13 rfl ?_
    obtain ⟨r5, c4, h⟩ := am_bnd h
    refine am_callVi (as := [.inl x1]) dX5_noWhole_14 cv_RX5_330 cb_X5_noRoom sh_5 rfl hk_5 rfl rfl (Nat.le_of_ble_eq_true rfl) (c_X5_noRoom c4) ?_
    refine am_iconst dX5_noWhole_17 ic_m1 ?_
    refine am_icmp_ne 34 dX5_noWhole_18 rfl (fun b12 => ?_) (fun b12 => ?_)
    · replace h := am_ifF b12 h
      refine am_aload_n dX5_noWhole_34 rfl ?_
      refine am_bipush dX5_noWhole_35 bp_m5 ?_
      obtain ⟨r7, c6, h⟩ := am_bnd h
      refine am_callVi (as := [.inl (-5 : Int32)]) dX5_noWhole_37 cv_RX5_103 cb_X5_refuse sh_5 rfl hk_5 rfl rfl (Nat.le_of_ble_eq_true rfl) (c_X5_refuse c6) ?_
      refine am_goto 44 dX5_noWhole_40 rfl ?_
      obtain rfl := Option.some.inj h
      exact am_ireturn dX5_noWhole_44 rfl rfl hp
    · replace h := am_ifT b12 h
      refine am_aload_n dX5_noWhole_21 rfl ?_
      refine am_getR (o' := o) dX5_noWhole_22 fl_RX5_16 sh_5 rfl rfl hk_5 ?_
      refine am_iload_n dX5_noWhole_25 rfl ?_
      obtain ⟨g8, h⟩ := am_grd h
      refine am_iaload dX5_noWhole_26 sh_602 hk_602 (am_inbE g8) ?_
      refine am_aload_n dX5_noWhole_27 rfl ?_
      refine am_getI dX5_noWhole_28 fl_RX5_254 sh_5 rfl hk_5 ?_
      refine am_icmp_eq 43 dX5_noWhole_31 rfl (fun b11 => ?_) (fun b11 => ?_)
      · replace h := am_ifT b11 h
        refine am_iconst dX5_noWhole_43 ic_0 ?_
        obtain rfl := Option.some.inj h
        exact am_ireturn dX5_noWhole_44 rfl rfl hp
      · replace h := am_ifF b11 h
        refine am_aload_n dX5_noWhole_34 rfl ?_
        refine am_bipush dX5_noWhole_35 bp_m5 ?_
        obtain ⟨r10, c9, h⟩ := am_bnd h
        refine am_callVi (as := [.inl (-5 : Int32)]) dX5_noWhole_37 cv_RX5_103 cb_X5_refuse sh_5 rfl hk_5 rfl rfl (Nat.le_of_ble_eq_true rfl) (c_X5_refuse c9) ?_
        refine am_goto 44 dX5_noWhole_40 rfl ?_
        obtain rfl := Option.some.inj h
        exact am_ireturn dX5_noWhole_44 rfl rfl hp
  · replace h := am_ifF b13 h
    refine am_iload_n dX5_noWhole_10 rfl ?_
    obtain rfl := Option.some.inj h
    exact am_ireturn dX5_noWhole_11 rfl rfl hp
theorem c_X5_noWhole {K : am_K} {d : Nat} {M : am_M} {o : Nat} {x1 : Int32} {y : Int32 × am_M} (h : f_X5_noWhole M o x1 = some y) : am_Met K (d + 5) m_X5_noWhole [.inr (.inr (5, o, 0)), .inl x1] M (fun q N => q = some (.inl y.1) ∧ N = y.2) :=
  am_Met_of cb_X5_noWhole (Nat.le_of_ble_eq_true rfl) (w_X5_noWhole h ⟨rfl, rfl⟩)
def l_X5_ofTold_11 (M : am_M) (o0a : Nat) (a1 : Int32) (a2 : Int32) : Nat → Int32 → Int32 → Int32 → Int32 → Option (Int32 × Int32)
  | 0, _, _, _, _ => none
  | n + 1, a3, a4, a5, a6 => (if (M.1 5 o0a 0 29) < a6 then some (a4, a5) else if am_inb a1 8 = true then if am_inb (a6 - (1 : Int32)) 40 = true then am_let (a3 + ((M.2 703 o0a a1.toNatClampNeg (a6 - (1 : Int32)).toNatClampNeg).toInt32)) (fun v3 => am_let (((2 : Int32) * v3) - a6) (fun v4 => ((if a2 = 0 then (if v4 ≤ 0 then some (0 : Int32) else some (1 : Int32)) else (if v4 = 0 then some (1 : Int32) else some (0 : Int32))) : Option (Int32)).bind (fun z5 => am_let (a4 + z5) (fun v11 => ((if v4 ≤ a5 then some a5 else some v4) : Option (Int32)).bind (fun z12 => am_let (a6 + (1 : Int32)) (fun v16 => l_X5_ofTold_11 M o0a a1 a2 n v3 v11 z12 v16)))))) else none else none)
set_option maxHeartbeats 4000000 in
theorem wl_X5_ofTold_11 {K : am_K} {d : Nat} {post : Option am_V → am_M → Prop} {M : am_M} {o0a : Nat} {a1 : Int32} {a2 : Int32} : ∀ (n : Nat) (a3 : Int32) (a4 : Int32) (a5 : Int32) (a6 : Int32) (x : Int32 × Int32), l_X5_ofTold_11 M o0a a1 a2 n a3 a4 a5 a6 = some x → am_W K d m_X5_ofTold 92 [(2, .inl a2), (4, .inl x.1), (5, .inl x.2)] [] M post → am_W K d m_X5_ofTold 11 [(0, .inr (.inr (5, o0a, 0))), (1, .inl a1), (2, .inl a2), (3, .inl a3), (4, .inl a4), (5, .inl a5), (6, .inl a6)] [] M post := by
  intro n
  induction n with
  | zero => intro a3 a4 a5 a6 x h KX; cases h
  | succ n ih =>
    intro a3 a4 a5 a6 x h KX
    rw [l_X5_ofTold_11] at h
    refine am_iload dX5_ofTold_11 rfl ?_
    refine am_aload_n dX5_ofTold_13 rfl ?_
    refine am_getI dX5_ofTold_14 fl_RX5_254 sh_5 rfl hk_5 ?_
    refine am_icmp_gt 92 dX5_ofTold_17 rfl (fun b17 => ?_) (fun b17 => ?_)
    · replace h := am_ifT b17 h
      obtain rfl := Option.some.inj h
      exact am_drop [2, 4, 5] rfl KX
    · replace h := am_ifF b17 h
      refine am_iload_n dX5_ofTold_20 rfl ?_
      refine am_aload_n dX5_ofTold_21 rfl ?_
      refine am_getR (o' := o0a) dX5_ofTold_22 fl_RX5_21 sh_5 rfl rfl hk_5 ?_
      refine am_iload_n dX5_ofTold_25 rfl ?_
      obtain ⟨g1, h⟩ := am_grd h
      refine am_aaload dX5_ofTold_26 sh_603 rfl rfl hk_603 (am_inbE g1) ?_
      refine am_top (w := .inr (.inr (703, o0a, a1.toNatClampNeg))) rfl ?_
      refine am_iload dX5_ofTold_27 rfl ?_
      refine am_iconst dX5_ofTold_29 ic_1 ?_
      refine am_isub dX5_ofTold_30 ?_
      obtain ⟨g2, h⟩ := am_grd h
      refine am_laload dX5_ofTold_31 sh_703 hk_703 (am_inbE g2) ?_
      refine am_l2i dX5_ofTold_32 ?_
      refine am_iadd dX5_ofTold_33 ?_
      obtain ⟨v3, ev3, h⟩ := am_letE h
      refine am_topI ev3 ?_
      refine am_istore_n (ls' := [(0, .inr (.inr (5, o0a, 0))), (1, .inl a1), (2, .inl a2), (3, .inl v3), (4, .inl a4), (5, .inl a5), (6, .inl a6)]) dX5_ofTold_34 (Nat.le_of_ble_eq_true rfl) rfl ?_
      refine am_iconst dX5_ofTold_35 ic_2 ?_
      refine am_iload_n dX5_ofTold_36 rfl ?_
      refine am_imul dX5_ofTold_37 ?_
      refine am_iload dX5_ofTold_38 rfl ?_
      refine am_isub dX5_ofTold_40 ?_
      obtain ⟨v4, ev4, h⟩ := am_letE h
      refine am_topI ev4 ?_
      refine am_istore (ls' := [(0, .inr (.inr (5, o0a, 0))), (1, .inl a1), (2, .inl a2), (3, .inl v3), (4, .inl a4), (5, .inl a5), (6, .inl a6), (7, .inl v4)]) dX5_ofTold_41 (Nat.le_of_ble_eq_true rfl) rfl ?_
      refine am_iload dX5_ofTold_43 rfl ?_
      refine am_iload_n dX5_ofTold_45 rfl ?_
      obtain ⟨z5, h6, h⟩ := am_bnd h
      have KK7 : am_W K d m_X5_ofTold 67 [(0, .inr (.inr (5, o0a, 0))), (1, .inl a1), (2, .inl a2), (3, .inl v3), (5, .inl a5), (6, .inl a6), (7, .inl v4)] [.inl z5, .inl a4] M post := by
        refine am_iadd dX5_ofTold_67 ?_
        obtain ⟨v11, ev11, h⟩ := am_letE h
        refine am_topI ev11 ?_
        refine am_istore (ls' := [(0, .inr (.inr (5, o0a, 0))), (1, .inl a1), (2, .inl a2), (3, .inl v3), (4, .inl v11), (5, .inl a5), (6, .inl a6), (7, .inl v4)]) dX5_ofTold_68 (Nat.le_of_ble_eq_true rfl) rfl ?_
        refine am_iload dX5_ofTold_70 rfl ?_
        refine am_iload dX5_ofTold_72 rfl ?_
        obtain ⟨z12, h13, h⟩ := am_bnd h
        have KK14 : am_W K d m_X5_ofTold 84 [(0, .inr (.inr (5, o0a, 0))), (1, .inl a1), (2, .inl a2), (3, .inl v3), (4, .inl v11), (6, .inl a6)] [.inl z12] M post := by
          refine am_istore (ls' := [(0, .inr (.inr (5, o0a, 0))), (1, .inl a1), (2, .inl a2), (3, .inl v3), (4, .inl v11), (5, .inl z12), (6, .inl a6)]) dX5_ofTold_84 (Nat.le_of_ble_eq_true rfl) rfl ?_
          obtain ⟨v16, ev16, h⟩ := am_letE h
          refine am_iinc (ls' := [(0, .inr (.inr (5, o0a, 0))), (1, .inl a1), (2, .inl a2), (3, .inl v3), (4, .inl v11), (5, .inl z12), (6, .inl v16)]) dX5_ofTold_86 rfl ((congrArg (fun z => a6 + z) ic_1).trans ev16.symm) (Nat.le_of_ble_eq_true rfl) rfl ?_
          refine am_goto 11 dX5_ofTold_89 rfl ?_
          exact am_drop [0, 1, 2, 3, 4, 5, 6] rfl (ih _ _ _ _ _ h KX)
        clear h
        refine am_icmp_le 82 dX5_ofTold_74 rfl (fun b15 => ?_) (fun b15 => ?_)
        · replace h13 := am_ifT b15 h13
          refine am_iload dX5_ofTold_82 rfl ?_
          obtain rfl := Option.some.inj h13
          exact am_drop [0, 1, 2, 3, 4, 6] rfl KK14
        · replace h13 := am_ifF b15 h13
          refine am_iload dX5_ofTold_77 rfl ?_
          refine am_goto 84 dX5_ofTold_79 rfl ?_
          obtain rfl := Option.some.inj h13
          exact am_drop [0, 1, 2, 3, 4, 6] rfl KK14
      clear h
      refine am_if_ne 57 dX5_ofTold_46 rfl (fun b10 => ?_) (fun b10 => ?_)
      · replace h6 := am_ifF b10 h6
        refine am_iload dX5_ofTold_57 rfl ?_
        refine am_if_ne 66 dX5_ofTold_59 rfl (fun b8 => ?_) (fun b8 => ?_)
        · replace h6 := am_ifF b8 h6
          refine am_iconst dX5_ofTold_66 ic_0 ?_
          obtain rfl := Option.some.inj h6
          exact am_drop [0, 1, 2, 3, 5, 6, 7] rfl KK7
        · replace h6 := am_ifT b8 h6
          refine am_iconst dX5_ofTold_62 ic_1 ?_
          refine am_goto 67 dX5_ofTold_63 rfl ?_
          obtain rfl := Option.some.inj h6
          exact am_drop [0, 1, 2, 3, 5, 6, 7] rfl KK7
      · replace h6 := am_ifT b10 h6
        refine am_iload dX5_ofTold_49 rfl ?_
        refine am_if_le 66 dX5_ofTold_51 rfl (fun b9 => ?_) (fun b9 => ?_)
        · replace h6 := am_ifT b9 h6
          refine am_iconst dX5_ofTold_66 ic_0 ?_
          obtain rfl := Option.some.inj h6
          exact am_drop [0, 1, 2, 3, 5, 6, 7] rfl KK7
        · replace h6 := am_ifF b9 h6
          refine am_goto 62 dX5_ofTold_54 rfl ?_
          refine am_iconst dX5_ofTold_62 ic_1 ?_
          refine am_goto 67 dX5_ofTold_63 rfl ?_
          obtain rfl := Option.some.inj h6
          exact am_drop [0, 1, 2, 3, 5, 6, 7] rfl KK7
def f_X5_ofTold (M : am_M) (o : Nat) (x1 : Int32) (x2 : Int32) : Option (Int32) :=
  (l_X5_ofTold_11 M o x1 x2 1000 (0 : Int32) (0 : Int32) (0 : Int32) (1 : Int32)).bind (fun z18 => (if x2 = (2 : Int32) then some z18.2 else some z18.1))
set_option maxHeartbeats 4000000 in
theorem w_X5_ofTold {K : am_K} {d : Nat} {post : Option am_V → am_M → Prop} {M : am_M} {o : Nat} {x1 : Int32} {x2 : Int32} {y : Int32} (h : f_X5_ofTold M o x1 x2 = some y) (hp : post (some (.inl y)) M) : am_W K d m_X5_ofTold 0 [(0, .inr (.inr (5, o, 0))), (1, .inl x1), (2, .inl x2)] [] M post := by
  unfold f_X5_ofTold at h
  refine am_iconst dX5_ofTold_0 ic_0 ?_
  refine am_istore_n (ls' := [(0, .inr (.inr (5, o, 0))), (1, .inl x1), (2, .inl x2), (3, .inl (0 : Int32))]) dX5_ofTold_1 (Nat.le_of_ble_eq_true rfl) rfl ?_
  refine am_iconst dX5_ofTold_2 ic_0 ?_
  refine am_istore (ls' := [(0, .inr (.inr (5, o, 0))), (1, .inl x1), (2, .inl x2), (3, .inl (0 : Int32)), (4, .inl (0 : Int32))]) dX5_ofTold_3 (Nat.le_of_ble_eq_true rfl) rfl ?_
  refine am_iconst dX5_ofTold_5 ic_0 ?_
  refine am_istore (ls' := [(0, .inr (.inr (5, o, 0))), (1, .inl x1), (2, .inl x2), (3, .inl (0 : Int32)), (4, .inl (0 : Int32)), (5, .inl (0 : Int32))]) dX5_ofTold_6 (Nat.le_of_ble_eq_true rfl) rfl ?_
  refine am_iconst dX5_ofTold_8 ic_1 ?_
  refine am_istore (ls' := [(0, .inr (.inr (5, o, 0))), (1, .inl x1), (2, .inl x2), (3, .inl (0 : Int32)), (4, .inl (0 : Int32)), (5, .inl (0 : Int32)), (6, .inl (1 : Int32))]) dX5_ofTold_9 (Nat.le_of_ble_eq_true rfl) rfl ?_
  obtain ⟨z18, h19, h⟩ := am_bnd h
  have KK20 : am_W K d m_X5_ofTold 92 [(2, .inl x2), (4, .inl z18.1), (5, .inl z18.2)] [] M post := by
    refine am_iload_n dX5_ofTold_92 rfl ?_
    refine am_iconst dX5_ofTold_93 ic_2 ?_
    refine am_icmp_ne 102 dX5_ofTold_94 rfl (fun b21 => ?_) (fun b21 => ?_)
    · replace h := am_ifF b21 h
      refine am_iload dX5_ofTold_102 rfl ?_
      obtain rfl := Option.some.inj h
      exact am_ireturn dX5_ofTold_104 rfl rfl hp
    · replace h := am_ifT b21 h
      refine am_iload dX5_ofTold_97 rfl ?_
      refine am_goto 104 dX5_ofTold_99 rfl ?_
      obtain rfl := Option.some.inj h
      exact am_ireturn dX5_ofTold_104 rfl rfl hp
  exact am_drop [0, 1, 2, 3, 4, 5, 6] rfl (wl_X5_ofTold_11 _ _ _ _ _ _ h19 KK20)
theorem c_X5_ofTold {K : am_K} {d : Nat} {M : am_M} {o : Nat} {x1 : Int32} {x2 : Int32} {y : Int32} (h : f_X5_ofTold M o x1 x2 = some y) : am_Met K d m_X5_ofTold [.inr (.inr (5, o, 0)), .inl x1, .inl x2] M (fun q N => q = some (.inl y) ∧ N = M) :=
  am_Met_of cb_X5_ofTold (Nat.le_of_ble_eq_true rfl) (w_X5_ofTold h ⟨rfl, rfl⟩)
def f_X5_told (M : am_M) (o : Nat) (x1 : Int32) (x2 : Int32) : Option (Int32 × am_M) :=
  (f_X5_in M x2.toInt64 (0 : Int64) (2 : Int64)).bind (fun r2 => (if r2 = 0 then (f_X5_refuse M o (-2 : Int32)).bind (fun r10 => some (r10.1, r10.2)) else (f_X5_noWhole M o x1).bind (fun r4 => am_let r4.1 (fun v5 => (if v5 = 0 then (f_X5_ofTold r4.2 o x1 x2).bind (fun r7 => some (r7, r4.2)) else some (v5, r4.2))))))
set_option maxHeartbeats 4000000 in
theorem w_X5_told {K : am_K} {d : Nat} {post : Option am_V → am_M → Prop} {M : am_M} {o : Nat} {x1 : Int32} {x2 : Int32} {y : Int32 × am_M} (h : f_X5_told M o x1 x2 = some y) (hp : post (some (.inl y.1)) y.2) : am_W K (d + 6) m_X5_told 0 [(0, .inr (.inr (5, o, 0))), (1, .inl x1), (2, .inl x2)] [] M post := by
  unfold f_X5_told at h
  refine am_iload_n dX5_told_0 rfl ?_
  refine am_i2l dX5_told_1 ?_
  refine am_lconst dX5_told_2 lc_0 ?_
  refine am_ldc2 dX5_told_3 kc_RX5_252 ?_
  obtain ⟨r2, c1, h⟩ := am_bnd h
  refine am_callSi (as := [.inr (.inl x2.toInt64), .inr (.inl (0 : Int64)), .inr (.inl (2 : Int64))]) dX5_told_6 cs_RX5_95 cb_X5_in rfl rfl (Nat.le_of_ble_eq_true rfl) (c_X5_in c1) ?_
  refine am_if_ne 19 dX5_told_9 rfl (fun b11 => ?_) (fun b11 => ?_)
  · replace h := am_ifF b11 h
    refine am_aload_n dX5_told_19 rfl ?_
    refine am_iload_n dX5_told_20 rfl ?_
    obtain ⟨r4, c3, h⟩ := am_bnd h
    refine am_callVi (as := [.inl x1]) dX5_told_21 cv_RX5_333 cb_X5_noWhole sh_5 rfl hk_5 rfl rfl (Nat.le_of_ble_eq_true rfl) (c_X5_noWhole c3) ?_
    obtain ⟨v5, ev5, h⟩ := am_letE h
    refine am_topI ev5 ?_
    refine am_istore_n (ls' := [(0, .inr (.inr (5, o, 0))), (1, .inl x1), (2, .inl x2), (3, .inl v5)]) dX5_told_24 (Nat.le_of_ble_eq_true rfl) rfl ?_
    refine am_iload_n dX5_told_25 rfl ?_
    refine am_if_eq 33 dX5_told_26 rfl (fun b8 => ?_) (fun b8 => ?_)
    · replace h := am_ifT b8 h
      refine am_aload_n dX5_told_33 rfl ?_
      refine am_iload_n dX5_told_34 rfl ?_
      refine am_iload_n dX5_told_35 rfl ?_
      obtain ⟨r7, c6, h⟩ := am_bnd h
      refine am_callVi (as := [.inl x1, .inl x2]) dX5_told_36 cv_RX5_336 cb_X5_ofTold sh_5 rfl hk_5 rfl rfl (Nat.le_of_ble_eq_true rfl) (c_X5_ofTold c6) ?_
      obtain rfl := Option.some.inj h
      exact am_ireturn dX5_told_39 rfl rfl hp
    · replace h := am_ifF b8 h
      refine am_iload_n dX5_told_29 rfl ?_
      refine am_goto 39 dX5_told_30 rfl ?_
      obtain rfl := Option.some.inj h
      exact am_ireturn dX5_told_39 rfl rfl hp
  · replace h := am_ifT b11 h
    refine am_aload_n dX5_told_12 rfl ?_
    refine am_bipush dX5_told_13 bp_m2 ?_
    obtain ⟨r10, c9, h⟩ := am_bnd h
    refine am_callVi (as := [.inl (-2 : Int32)]) dX5_told_15 cv_RX5_103 cb_X5_refuse sh_5 rfl hk_5 rfl rfl (Nat.le_of_ble_eq_true rfl) (c_X5_refuse c9) ?_
    obtain rfl := Option.some.inj h
    exact am_ireturn dX5_told_18 rfl rfl hp
theorem c_X5_told {K : am_K} {d : Nat} {M : am_M} {o : Nat} {x1 : Int32} {x2 : Int32} {y : Int32 × am_M} (h : f_X5_told M o x1 x2 = some y) : am_Met K (d + 6) m_X5_told [.inr (.inr (5, o, 0)), .inl x1, .inl x2] M (fun q N => q = some (.inl y.1) ∧ N = y.2) :=
  am_Met_of cb_X5_told (Nat.le_of_ble_eq_true rfl) (w_X5_told h ⟨rfl, rfl⟩)
def l_X5_luck_30 (M : am_M) (o0a : Nat) : Nat → Int64 → Int32 → Option (Int64)
  | 0, _, _ => none
  | n + 1, a4, a6 => (if (M.1 5 o0a 0 29) < a6 then some a4 else (f_X5_levels M o0a a6).bind (fun r9 => am_let (a4 + r9) (fun v10 => am_let (a6 + (1 : Int32)) (fun v11 => l_X5_luck_30 M o0a n v10 v11))))
set_option maxHeartbeats 4000000 in
theorem wl_X5_luck_30 {K : am_K} {d : Nat} {post : Option am_V → am_M → Prop} {M : am_M} {o0a : Nat} : ∀ (n : Nat) (a4 : Int64) (a6 : Int32) (x : Int64), l_X5_luck_30 M o0a n a4 a6 = some x → am_W K (d + 6) m_X5_luck 56 [(4, .inr (.inl x))] [] M post → am_W K (d + 6) m_X5_luck 30 [(0, .inr (.inr (5, o0a, 0))), (4, .inr (.inl a4)), (6, .inl a6)] [] M post := by
  intro n
  induction n with
  | zero => intro a4 a6 x h KX; cases h
  | succ n ih =>
    intro a4 a6 x h KX
    rw [l_X5_luck_30] at h
    refine am_iload dX5_luck_30 rfl ?_
    refine am_aload_n dX5_luck_32 rfl ?_
    refine am_getI dX5_luck_33 fl_RX5_254 sh_5 rfl hk_5 ?_
    refine am_icmp_gt 56 dX5_luck_36 rfl (fun b12 => ?_) (fun b12 => ?_)
    · replace h := am_ifT b12 h
      obtain rfl := Option.some.inj h
      exact am_drop [4] rfl KX
    · replace h := am_ifF b12 h
      refine am_lload dX5_luck_39 rfl ?_
      refine am_aload_n dX5_luck_41 rfl ?_
      refine am_iload dX5_luck_42 rfl ?_
      obtain ⟨r9, c8, h⟩ := am_bnd h
      refine am_callVl (as := [.inl a6]) dX5_luck_44 cv_RX5_300 cb_X5_levels sh_5 rfl hk_5 rfl rfl (Nat.le_of_ble_eq_true rfl) (c_X5_levels c8) ?_
      refine am_ladd dX5_luck_47 ?_
      obtain ⟨v10, ev10, h⟩ := am_letE h
      refine am_topL ev10 ?_
      refine am_lstore (ls' := [(0, .inr (.inr (5, o0a, 0))), (4, .inr (.inl v10)), (6, .inl a6)]) dX5_luck_48 (Nat.le_of_ble_eq_true rfl) rfl ?_
      obtain ⟨v11, ev11, h⟩ := am_letE h
      refine am_iinc (ls' := [(0, .inr (.inr (5, o0a, 0))), (4, .inr (.inl v10)), (6, .inl v11)]) dX5_luck_50 rfl ((congrArg (fun z => a6 + z) ic_1).trans ev11.symm) (Nat.le_of_ble_eq_true rfl) rfl ?_
      refine am_goto 30 dX5_luck_53 rfl ?_
      exact am_drop [0, 4, 6] rfl (ih _ _ _ h KX)
def f_X5_luck (M : am_M) (o : Nat) (x1 : Int32) : Option (Int32 × am_M) :=
  (f_X5_noWhole M o x1).bind (fun r2 => am_let r2.1 (fun v3 => (if v3 = 0 then (f_X5_ofTold r2.2 o x1 (0 : Int32)).bind (fun r5 => (f_X5_countMoments r2.2 o (0 : Int32)).bind (fun r7 => (l_X5_luck_30 r7 o 1000 (0 : Int64) r5).bind (fun z13 => some (z13.toInt32, r7)))) else some (v3, r2.2))))
set_option maxHeartbeats 4000000 in
theorem w_X5_luck {K : am_K} {d : Nat} {post : Option am_V → am_M → Prop} {M : am_M} {o : Nat} {x1 : Int32} {y : Int32 × am_M} (h : f_X5_luck M o x1 = some y) (hp : post (some (.inl y.1)) y.2) : am_W K (d + 6) m_X5_luck 0 [(0, .inr (.inr (5, o, 0))), (1, .inl x1)] [] M post := by
  unfold f_X5_luck at h
  refine am_aload_n dX5_luck_0 rfl ?_
  refine am_iload_n dX5_luck_1 rfl ?_
  obtain ⟨r2, c1, h⟩ := am_bnd h
  refine am_callVi (as := [.inl x1]) dX5_luck_2 cv_RX5_333 cb_X5_noWhole sh_5 rfl hk_5 rfl rfl (Nat.le_of_ble_eq_true rfl) (c_X5_noWhole c1) ?_
  obtain ⟨v3, ev3, h⟩ := am_letE h
  refine am_topI ev3 ?_
  refine am_istore_n (ls' := [(0, .inr (.inr (5, o, 0))), (1, .inl x1), (2, .inl v3)]) dX5_luck_5 (Nat.le_of_ble_eq_true rfl) rfl ?_
  refine am_iload_n dX5_luck_6 rfl ?_
  refine am_if_eq 12 dX5_luck_7 rfl (fun b16 => ?_) (fun b16 => ?_)
  · replace h := am_ifT b16 h
    refine am_aload_n dX5_luck_12 rfl ?_
    refine am_iload_n dX5_luck_13 rfl ?_
    refine am_iconst dX5_luck_14 ic_0 ?_
    obtain ⟨r5, c4, h⟩ := am_bnd h
    refine am_callVi (as := [.inl x1, .inl (0 : Int32)]) dX5_luck_15 cv_RX5_336 cb_X5_ofTold sh_5 rfl hk_5 rfl rfl (Nat.le_of_ble_eq_true rfl) (c_X5_ofTold c4) ?_
    refine am_istore_n (ls' := [(0, .inr (.inr (5, o, 0))), (1, .inl x1), (2, .inl v3), (3, .inl r5)]) dX5_luck_18 (Nat.le_of_ble_eq_true rfl) rfl ?_
    refine am_aload_n dX5_luck_19 rfl ?_
    refine am_iconst dX5_luck_20 ic_0 ?_
    obtain ⟨r7, c6, h⟩ := am_bnd h
    refine am_callVv (as := [.inl (0 : Int32)]) dX5_luck_21 cv_RX5_296 cb_X5_countMoments sh_5 rfl hk_5 rfl rfl (Nat.le_of_ble_eq_true rfl) (c_X5_countMoments c6) ?_
    refine am_lconst dX5_luck_24 lc_0 ?_
    refine am_lstore (ls' := [(0, .inr (.inr (5, o, 0))), (1, .inl x1), (2, .inl v3), (3, .inl r5), (4, .inr (.inl (0 : Int64)))]) dX5_luck_25 (Nat.le_of_ble_eq_true rfl) rfl ?_
    refine am_iload_n dX5_luck_27 rfl ?_
    refine am_istore (ls' := [(0, .inr (.inr (5, o, 0))), (1, .inl x1), (2, .inl v3), (3, .inl r5), (4, .inr (.inl (0 : Int64))), (6, .inl r5)]) dX5_luck_28 (Nat.le_of_ble_eq_true rfl) rfl ?_
    obtain ⟨z13, h14, h⟩ := am_bnd h
    have KK15 : am_W K (d + 6) m_X5_luck 56 [(4, .inr (.inl z13))] [] r7 post := by
      refine am_lload dX5_luck_56 rfl ?_
      refine am_l2i dX5_luck_58 ?_
      obtain rfl := Option.some.inj h
      exact am_ireturn dX5_luck_59 rfl rfl hp
    exact am_drop [0, 4, 6] rfl (wl_X5_luck_30 _ _ _ _ h14 KK15)
  · replace h := am_ifF b16 h
    refine am_iload_n dX5_luck_10 rfl ?_
    obtain rfl := Option.some.inj h
    exact am_ireturn dX5_luck_11 rfl rfl hp
theorem c_X5_luck {K : am_K} {d : Nat} {M : am_M} {o : Nat} {x1 : Int32} {y : Int32 × am_M} (h : f_X5_luck M o x1 = some y) : am_Met K (d + 6) m_X5_luck [.inr (.inr (5, o, 0)), .inl x1] M (fun q N => q = some (.inl y.1) ∧ N = y.2) :=
  am_Met_of cb_X5_luck (Nat.le_of_ble_eq_true rfl) (w_X5_luck h ⟨rfl, rfl⟩)
def l_X5_lost_51 (M : am_M) (a1 : Int32) (a3 : Int32) : Nat → Int64 → Int64 → Int32 → Option (Int64)
  | 0, _, _, _ => none
  | n + 1, a4, a6, a8 => (if a1 < a8 then some a6 else am_let ((a3 + ((2 : Int32) * a8)) - a1) (fun v12 => ((if a3 = 0 then (if v12 ≤ 0 then some (0 : Int64) else some a4) else (if 0 < v12 then some (0 : Int64) else some a4)) : Option (Int64)).bind (fun z13 => am_let (a6 + z13) (fun v19 => if ¬ ((a8 + (1 : Int32)).toInt64) = 0 then am_let ((a4 * ((a1 - a8).toInt64)) / ((a8 + (1 : Int32)).toInt64)) (fun v21 => am_let (a8 + (1 : Int32)) (fun v22 => l_X5_lost_51 M a1 a3 n v21 v19 v22)) else none))))
set_option maxHeartbeats 4000000 in
theorem wl_X5_lost_51 {K : am_K} {d : Nat} {post : Option am_V → am_M → Prop} {M : am_M} {a1 : Int32} {a3 : Int32} : ∀ (n : Nat) (a4 : Int64) (a6 : Int64) (a8 : Int32) (x : Int64), l_X5_lost_51 M a1 a3 n a4 a6 a8 = some x → am_W K (d + 2) m_X5_lost 117 [(6, .inr (.inl x))] [] M post → am_W K (d + 2) m_X5_lost 51 [(1, .inl a1), (3, .inl a3), (4, .inr (.inl a4)), (6, .inr (.inl a6)), (8, .inl a8)] [] M post := by
  intro n
  induction n with
  | zero => intro a4 a6 a8 x h KX; cases h
  | succ n ih =>
    intro a4 a6 a8 x h KX
    rw [l_X5_lost_51] at h
    refine am_iload dX5_lost_51 rfl ?_
    refine am_iload_n dX5_lost_53 rfl ?_
    refine am_icmp_gt 117 dX5_lost_54 rfl (fun b23 => ?_) (fun b23 => ?_)
    · replace h := am_ifT b23 h
      obtain rfl := Option.some.inj h
      exact am_drop [6] rfl KX
    · replace h := am_ifF b23 h
      refine am_iload_n dX5_lost_57 rfl ?_
      refine am_iconst dX5_lost_58 ic_2 ?_
      refine am_iload dX5_lost_59 rfl ?_
      refine am_imul dX5_lost_61 ?_
      refine am_iadd dX5_lost_62 ?_
      refine am_iload_n dX5_lost_63 rfl ?_
      refine am_isub dX5_lost_64 ?_
      obtain ⟨v12, ev12, h⟩ := am_letE h
      refine am_topI ev12 ?_
      refine am_istore (ls' := [(1, .inl a1), (3, .inl a3), (4, .inr (.inl a4)), (6, .inr (.inl a6)), (8, .inl a8), (9, .inl v12)]) dX5_lost_65 (Nat.le_of_ble_eq_true rfl) rfl ?_
      refine am_lload dX5_lost_67 rfl ?_
      refine am_iload_n dX5_lost_69 rfl ?_
      obtain ⟨z13, h14, h⟩ := am_bnd h
      have KK15 : am_W K (d + 2) m_X5_lost 92 [(1, .inl a1), (3, .inl a3), (4, .inr (.inl a4)), (8, .inl a8)] [.inr (.inl z13), .inr (.inl a6)] M post := by
        refine am_ladd dX5_lost_92 ?_
        obtain ⟨v19, ev19, h⟩ := am_letE h
        refine am_topL ev19 ?_
        refine am_lstore (ls' := [(1, .inl a1), (3, .inl a3), (4, .inr (.inl a4)), (6, .inr (.inl v19)), (8, .inl a8)]) dX5_lost_93 (Nat.le_of_ble_eq_true rfl) rfl ?_
        refine am_lload dX5_lost_95 rfl ?_
        refine am_iload_n dX5_lost_97 rfl ?_
        refine am_iload dX5_lost_98 rfl ?_
        refine am_isub dX5_lost_100 ?_
        refine am_i2l dX5_lost_101 ?_
        refine am_lmul dX5_lost_102 ?_
        refine am_iload dX5_lost_103 rfl ?_
        refine am_iconst dX5_lost_105 ic_1 ?_
        refine am_iadd dX5_lost_106 ?_
        refine am_i2l dX5_lost_107 ?_
        obtain ⟨g20, h⟩ := am_grd h
        refine am_ldiv dX5_lost_108 g20 ?_
        obtain ⟨v21, ev21, h⟩ := am_letE h
        refine am_topL ev21 ?_
        refine am_lstore (ls' := [(1, .inl a1), (3, .inl a3), (4, .inr (.inl v21)), (6, .inr (.inl v19)), (8, .inl a8)]) dX5_lost_109 (Nat.le_of_ble_eq_true rfl) rfl ?_
        obtain ⟨v22, ev22, h⟩ := am_letE h
        refine am_iinc (ls' := [(1, .inl a1), (3, .inl a3), (4, .inr (.inl v21)), (6, .inr (.inl v19)), (8, .inl v22)]) dX5_lost_111 rfl ((congrArg (fun z => a8 + z) ic_1).trans ev22.symm) (Nat.le_of_ble_eq_true rfl) rfl ?_
        refine am_goto 51 dX5_lost_114 rfl ?_
        exact am_drop [1, 3, 4, 6, 8] rfl (ih _ _ _ _ h KX)
      clear h
      refine am_if_ne 81 dX5_lost_70 rfl (fun b18 => ?_) (fun b18 => ?_)
      · replace h14 := am_ifF b18 h14
        refine am_iload dX5_lost_81 rfl ?_
        refine am_if_gt 91 dX5_lost_83 rfl (fun b16 => ?_) (fun b16 => ?_)
        · replace h14 := am_ifT b16 h14
          refine am_lconst dX5_lost_91 lc_0 ?_
          obtain rfl := Option.some.inj h14
          exact am_drop [1, 3, 4, 8] rfl KK15
        · replace h14 := am_ifF b16 h14
          refine am_lload dX5_lost_86 rfl ?_
          refine am_goto 92 dX5_lost_88 rfl ?_
          obtain rfl := Option.some.inj h14
          exact am_drop [1, 3, 4, 8] rfl KK15
      · replace h14 := am_ifT b18 h14
        refine am_iload dX5_lost_73 rfl ?_
        refine am_if_le 91 dX5_lost_75 rfl (fun b17 => ?_) (fun b17 => ?_)
        · replace h14 := am_ifT b17 h14
          refine am_lconst dX5_lost_91 lc_0 ?_
          obtain rfl := Option.some.inj h14
          exact am_drop [1, 3, 4, 8] rfl KK15
        · replace h14 := am_ifF b17 h14
          refine am_goto 86 dX5_lost_78 rfl ?_
          refine am_lload dX5_lost_86 rfl ?_
          refine am_goto 92 dX5_lost_88 rfl ?_
          obtain rfl := Option.some.inj h14
          exact am_drop [1, 3, 4, 8] rfl KK15
def f_X5_lost (M : am_M) (o : Nat) (x1 : Int32) : Option (Int32 × am_M) :=
  (f_X5_in M x1.toInt64 (0 : Int64) (20 : Int64)).bind (fun r2 => (if r2 = 0 then (f_X5_refuse M o (-2 : Int32)).bind (fun r28 => some (r28.1, r28.2)) else (f_X5_allA M o).bind (fun r4 => (f_X5_all M o).bind (fun r6 => am_let (((2 : Int32) * r4) - r6) (fun v7 => ((if 0 ≤ v7 then some v7 else some (-v7)) : Option (Int32)).bind (fun z8 => (l_X5_lost_51 M x1 z8 1000 (1 : Int64) (0 : Int64) (0 : Int32)).bind (fun z24 => some (z24.toInt32, M))))))))
set_option maxHeartbeats 4000000 in
theorem w_X5_lost {K : am_K} {d : Nat} {post : Option am_V → am_M → Prop} {M : am_M} {o : Nat} {x1 : Int32} {y : Int32 × am_M} (h : f_X5_lost M o x1 = some y) (hp : post (some (.inl y.1)) y.2) : am_W K (d + 2) m_X5_lost 0 [(0, .inr (.inr (5, o, 0))), (1, .inl x1)] [] M post := by
  unfold f_X5_lost at h
  refine am_iload_n dX5_lost_0 rfl ?_
  refine am_i2l dX5_lost_1 ?_
  refine am_lconst dX5_lost_2 lc_0 ?_
  refine am_ldc2 dX5_lost_3 kc_RX5_352 ?_
  obtain ⟨r2, c1, h⟩ := am_bnd h
  refine am_callSi (as := [.inr (.inl x1.toInt64), .inr (.inl (0 : Int64)), .inr (.inl (20 : Int64))]) dX5_lost_6 cs_RX5_95 cb_X5_in rfl rfl (Nat.le_of_ble_eq_true rfl) (c_X5_in c1) ?_
  refine am_if_ne 19 dX5_lost_9 rfl (fun b29 => ?_) (fun b29 => ?_)
  · replace h := am_ifF b29 h
    refine am_iconst dX5_lost_19 ic_2 ?_
    refine am_aload_n dX5_lost_20 rfl ?_
    obtain ⟨r4, c3, h⟩ := am_bnd h
    refine am_callVi (as := []) dX5_lost_21 cv_RX5_133 cb_X5_allA sh_5 rfl hk_5 rfl rfl (Nat.le_of_ble_eq_true rfl) (c_X5_allA c3) ?_
    refine am_imul dX5_lost_24 ?_
    refine am_aload_n dX5_lost_25 rfl ?_
    obtain ⟨r6, c5, h⟩ := am_bnd h
    refine am_callVi (as := []) dX5_lost_26 cv_RX5_140 cb_X5_all sh_5 rfl hk_5 rfl rfl (Nat.le_of_ble_eq_true rfl) (c_X5_all c5) ?_
    refine am_isub dX5_lost_29 ?_
    obtain ⟨v7, ev7, h⟩ := am_letE h
    refine am_topI ev7 ?_
    refine am_istore_n (ls' := [(0, .inr (.inr (5, o, 0))), (1, .inl x1), (2, .inl v7)]) dX5_lost_30 (Nat.le_of_ble_eq_true rfl) rfl ?_
    refine am_iload_n dX5_lost_31 rfl ?_
    obtain ⟨z8, h9, h⟩ := am_bnd h
    have KK10 : am_W K (d + 2) m_X5_lost 41 [(1, .inl x1)] [.inl z8] M post := by
      refine am_istore_n (ls' := [(1, .inl x1), (3, .inl z8)]) dX5_lost_41 (Nat.le_of_ble_eq_true rfl) rfl ?_
      refine am_lconst dX5_lost_42 lc_1 ?_
      refine am_lstore (ls' := [(1, .inl x1), (3, .inl z8), (4, .inr (.inl (1 : Int64)))]) dX5_lost_43 (Nat.le_of_ble_eq_true rfl) rfl ?_
      refine am_lconst dX5_lost_45 lc_0 ?_
      refine am_lstore (ls' := [(1, .inl x1), (3, .inl z8), (4, .inr (.inl (1 : Int64))), (6, .inr (.inl (0 : Int64)))]) dX5_lost_46 (Nat.le_of_ble_eq_true rfl) rfl ?_
      refine am_iconst dX5_lost_48 ic_0 ?_
      refine am_istore (ls' := [(1, .inl x1), (3, .inl z8), (4, .inr (.inl (1 : Int64))), (6, .inr (.inl (0 : Int64))), (8, .inl (0 : Int32))]) dX5_lost_49 (Nat.le_of_ble_eq_true rfl) rfl ?_
      obtain ⟨z24, h25, h⟩ := am_bnd h
      have KK26 : am_W K (d + 2) m_X5_lost 117 [(6, .inr (.inl z24))] [] M post := by
        refine am_lload dX5_lost_117 rfl ?_
        refine am_l2i dX5_lost_119 ?_
        obtain rfl := Option.some.inj h
        exact am_ireturn dX5_lost_120 rfl rfl hp
      exact am_drop [1, 3, 4, 6, 8] rfl (wl_X5_lost_51 _ _ _ _ _ h25 KK26)
    clear h
    refine am_if_ge 40 dX5_lost_32 rfl (fun b11 => ?_) (fun b11 => ?_)
    · replace h9 := am_ifT b11 h9
      refine am_iload_n dX5_lost_40 rfl ?_
      obtain rfl := Option.some.inj h9
      exact am_drop [1] rfl KK10
    · replace h9 := am_ifF b11 h9
      refine am_iload_n dX5_lost_35 rfl ?_
      refine am_ineg dX5_lost_36 ?_
      refine am_goto 41 dX5_lost_37 rfl ?_
      obtain rfl := Option.some.inj h9
      exact am_drop [1] rfl KK10
  · replace h := am_ifT b29 h
    refine am_aload_n dX5_lost_12 rfl ?_
    refine am_bipush dX5_lost_13 bp_m2 ?_
    obtain ⟨r28, c27, h⟩ := am_bnd h
    refine am_callVi (as := [.inl (-2 : Int32)]) dX5_lost_15 cv_RX5_103 cb_X5_refuse sh_5 rfl hk_5 rfl rfl (Nat.le_of_ble_eq_true rfl) (c_X5_refuse c27) ?_
    obtain rfl := Option.some.inj h
    exact am_ireturn dX5_lost_18 rfl rfl hp
theorem c_X5_lost {K : am_K} {d : Nat} {M : am_M} {o : Nat} {x1 : Int32} {y : Int32 × am_M} (h : f_X5_lost M o x1 = some y) : am_Met K (d + 2) m_X5_lost [.inr (.inr (5, o, 0)), .inl x1] M (fun q N => q = some (.inl y.1) ∧ N = y.2) :=
  am_Met_of cb_X5_lost (Nat.le_of_ble_eq_true rfl) (w_X5_lost h ⟨rfl, rfl⟩)
def f_X5_noBooks (M : am_M) (o : Nat) (x1 : Int32) (x2 : Int32) : Option (Int32 × am_M) :=
  (f_X5_noRows M o x1 x2 (0 : Int32)).bind (fun r2 => am_let r2.1 (fun v3 => (if v3 = 0 then if am_inb x1 8 = true then (f_X5_all r2.2 o).bind (fun r6 => (if (r2.2.1 602 o 0 x1.toNatClampNeg) = r6 then if am_inb x2 8 = true then (f_X5_all r2.2 o).bind (fun r11 => (if (r2.2.1 602 o 0 x2.toNatClampNeg) = r11 then some ((0 : Int32), r2.2) else (f_X5_refuse r2.2 o (-2 : Int32)).bind (fun r13 => some (r13.1, r13.2)))) else none else (f_X5_refuse r2.2 o (-2 : Int32)).bind (fun r8 => some (r8.1, r8.2)))) else none else some (v3, r2.2))))
set_option maxHeartbeats 4000000 in
theorem w_X5_noBooks {K : am_K} {d : Nat} {post : Option am_V → am_M → Prop} {M : am_M} {o : Nat} {x1 : Int32} {x2 : Int32} {y : Int32 × am_M} (h : f_X5_noBooks M o x1 x2 = some y) (hp : post (some (.inl y.1)) y.2) : am_W K (d + 2) m_X5_noBooks 0 [(0, .inr (.inr (5, o, 0))), (1, .inl x1), (2, .inl x2)] [] M post := by
  unfold f_X5_noBooks at h
  refine am_aload_n dX5_noBooks_0 rfl ?_
  refine am_iload_n dX5_noBooks_1 rfl ?_
  refine am_iload_n dX5_noBooks_2 rfl ?_
  refine am_iconst dX5_noBooks_3 ic_0 ?_
  obtain ⟨r2, c1, h⟩ := am_bnd h
  refine am_callVi (as := [.inl x1, .inl x2, .inl (0 : Int32)]) dX5_noBooks_4 cv_RX5_114 cb_X5_noRows sh_5 rfl hk_5 rfl rfl (Nat.le_of_ble_eq_true rfl) (c_X5_noRows c1) ?_
  obtain ⟨v3, ev3, h⟩ := am_letE h
  refine am_topI ev3 ?_
  refine am_istore_n (ls' := [(0, .inr (.inr (5, o, 0))), (1, .inl x1), (2, .inl x2), (3, .inl v3)]) dX5_noBooks_7 (Nat.le_of_ble_eq_true rfl) rfl ?_
  refine am_iload_n dX5_noBooks_8 rfl ?_
  refine am_if_eq 14 dX5_noBooks_9 rfl (fun b16 => ?_) (fun b16 => ?_)
  · replace h := am_ifT b16 h
    refine am_aload_n dX5_noBooks_14 rfl ?_
    refine am_getR (o' := o) dX5_noBooks_15 fl_RX5_16 sh_5 rfl rfl hk_5 ?_
    refine am_iload_n dX5_noBooks_18 rfl ?_
    obtain ⟨g4, h⟩ := am_grd h
    refine am_iaload dX5_noBooks_19 sh_602 hk_602 (am_inbE g4) ?_
    refine am_aload_n dX5_noBooks_20 rfl ?_
    obtain ⟨r6, c5, h⟩ := am_bnd h
    refine am_callVi (as := []) dX5_noBooks_21 cv_RX5_140 cb_X5_all sh_5 rfl hk_5 rfl rfl (Nat.le_of_ble_eq_true rfl) (c_X5_all c5) ?_
    refine am_icmp_ne 40 dX5_noBooks_24 rfl (fun b15 => ?_) (fun b15 => ?_)
    · replace h := am_ifF b15 h
      refine am_aload_n dX5_noBooks_40 rfl ?_
      refine am_bipush dX5_noBooks_41 bp_m2 ?_
      obtain ⟨r8, c7, h⟩ := am_bnd h
      refine am_callVi (as := [.inl (-2 : Int32)]) dX5_noBooks_43 cv_RX5_103 cb_X5_refuse sh_5 rfl hk_5 rfl rfl (Nat.le_of_ble_eq_true rfl) (c_X5_refuse c7) ?_
      refine am_goto 50 dX5_noBooks_46 rfl ?_
      obtain rfl := Option.some.inj h
      exact am_ireturn dX5_noBooks_50 rfl rfl hp
    · replace h := am_ifT b15 h
      refine am_aload_n dX5_noBooks_27 rfl ?_
      refine am_getR (o' := o) dX5_noBooks_28 fl_RX5_16 sh_5 rfl rfl hk_5 ?_
      refine am_iload_n dX5_noBooks_31 rfl ?_
      obtain ⟨g9, h⟩ := am_grd h
      refine am_iaload dX5_noBooks_32 sh_602 hk_602 (am_inbE g9) ?_
      refine am_aload_n dX5_noBooks_33 rfl ?_
      obtain ⟨r11, c10, h⟩ := am_bnd h
      refine am_callVi (as := []) dX5_noBooks_34 cv_RX5_140 cb_X5_all sh_5 rfl hk_5 rfl rfl (Nat.le_of_ble_eq_true rfl) (c_X5_all c10) ?_
      refine am_icmp_eq 49 dX5_noBooks_37 rfl (fun b14 => ?_) (fun b14 => ?_)
      · replace h := am_ifT b14 h
        refine am_iconst dX5_noBooks_49 ic_0 ?_
        obtain rfl := Option.some.inj h
        exact am_ireturn dX5_noBooks_50 rfl rfl hp
      · replace h := am_ifF b14 h
        refine am_aload_n dX5_noBooks_40 rfl ?_
        refine am_bipush dX5_noBooks_41 bp_m2 ?_
        obtain ⟨r13, c12, h⟩ := am_bnd h
        refine am_callVi (as := [.inl (-2 : Int32)]) dX5_noBooks_43 cv_RX5_103 cb_X5_refuse sh_5 rfl hk_5 rfl rfl (Nat.le_of_ble_eq_true rfl) (c_X5_refuse c12) ?_
        refine am_goto 50 dX5_noBooks_46 rfl ?_
        obtain rfl := Option.some.inj h
        exact am_ireturn dX5_noBooks_50 rfl rfl hp
  · replace h := am_ifF b16 h
    refine am_iload_n dX5_noBooks_12 rfl ?_
    obtain rfl := Option.some.inj h
    exact am_ireturn dX5_noBooks_13 rfl rfl hp
theorem c_X5_noBooks {K : am_K} {d : Nat} {M : am_M} {o : Nat} {x1 : Int32} {x2 : Int32} {y : Int32 × am_M} (h : f_X5_noBooks M o x1 x2 = some y) : am_Met K (d + 2) m_X5_noBooks [.inr (.inr (5, o, 0)), .inl x1, .inl x2] M (fun q N => q = some (.inl y.1) ∧ N = y.2) :=
  am_Met_of cb_X5_noBooks (Nat.le_of_ble_eq_true rfl) (w_X5_noBooks h ⟨rfl, rfl⟩)
def l_X5_unlikeAt_2 (M : am_M) (o0a : Nat) (a1 : Int32) (a2 : Int32) : Nat → Int32 → Option (Int32)
  | 0, _ => none
  | n + 1, a3 => if am_inb a1 8 = true then (if (M.1 602 o0a 0 a1.toNatClampNeg) ≤ a3 then some (-1 : Int32) else if am_inb a1 8 = true then if am_inb a3 40 = true then (f_X5_in M (M.2 703 o0a a1.toNatClampNeg a3.toNatClampNeg) (0 : Int64) (1 : Int64)).bind (fun r5 => (if r5 = 0 then am_let (a3 + (1 : Int32)) (fun v6 => l_X5_unlikeAt_2 M o0a a1 a2 n v6) else if am_inb a2 8 = true then if am_inb a3 40 = true then (f_X5_in M (M.2 703 o0a a2.toNatClampNeg a3.toNatClampNeg) (0 : Int64) (1 : Int64)).bind (fun r10 => (if r10 = 0 then am_let (a3 + (1 : Int32)) (fun v11 => l_X5_unlikeAt_2 M o0a a1 a2 n v11) else if am_inb a1 8 = true then if am_inb a3 40 = true then if am_inb a2 8 = true then if am_inb a3 40 = true then (if (lg_cmp (M.2 703 o0a a1.toNatClampNeg a3.toNatClampNeg) (M.2 703 o0a a2.toNatClampNeg a3.toNatClampNeg)) = 0 then am_let (a3 + (1 : Int32)) (fun v16 => l_X5_unlikeAt_2 M o0a a1 a2 n v16) else some a3) else none else none else none else none)) else none else none)) else none else none) else none
set_option maxHeartbeats 4000000 in
theorem wl_X5_unlikeAt_2 {K : am_K} {d : Nat} {post : Option am_V → am_M → Prop} {M : am_M} {o0a : Nat} {a1 : Int32} {a2 : Int32} : ∀ (n : Nat) (a3 : Int32) (y : Int32), l_X5_unlikeAt_2 M o0a a1 a2 n a3 = some y → post (some (.inl y)) M → am_W K (d + 1) m_X5_unlikeAt 2 [(0, .inr (.inr (5, o0a, 0))), (1, .inl a1), (2, .inl a2), (3, .inl a3)] [] M post := by
  intro n
  induction n with
  | zero => intro a3 y h hp; cases h
  | succ n ih =>
    intro a3 y h hp
    rw [l_X5_unlikeAt_2] at h
    refine am_iload_n dX5_unlikeAt_2 rfl ?_
    refine am_aload_n dX5_unlikeAt_3 rfl ?_
    refine am_getR (o' := o0a) dX5_unlikeAt_4 fl_RX5_16 sh_5 rfl rfl hk_5 ?_
    refine am_iload_n dX5_unlikeAt_7 rfl ?_
    obtain ⟨g1, h⟩ := am_grd h
    refine am_iaload dX5_unlikeAt_8 sh_602 hk_602 (am_inbE g1) ?_
    refine am_icmp_ge 72 dX5_unlikeAt_9 rfl (fun b20 => ?_) (fun b20 => ?_)
    · replace h := am_ifT b20 h
      refine am_iconst dX5_unlikeAt_72 ic_m1 ?_
      obtain rfl := Option.some.inj h
      exact am_ireturn dX5_unlikeAt_73 rfl rfl hp
    · replace h := am_ifF b20 h
      refine am_aload_n dX5_unlikeAt_12 rfl ?_
      refine am_getR (o' := o0a) dX5_unlikeAt_13 fl_RX5_21 sh_5 rfl rfl hk_5 ?_
      refine am_iload_n dX5_unlikeAt_16 rfl ?_
      obtain ⟨g2, h⟩ := am_grd h
      refine am_aaload dX5_unlikeAt_17 sh_603 rfl rfl hk_603 (am_inbE g2) ?_
      refine am_top (w := .inr (.inr (703, o0a, a1.toNatClampNeg))) rfl ?_
      refine am_iload_n dX5_unlikeAt_18 rfl ?_
      obtain ⟨g3, h⟩ := am_grd h
      refine am_laload dX5_unlikeAt_19 sh_703 hk_703 (am_inbE g3) ?_
      refine am_lconst dX5_unlikeAt_20 lc_0 ?_
      refine am_lconst dX5_unlikeAt_21 lc_1 ?_
      obtain ⟨r5, c4, h⟩ := am_bnd h
      refine am_callSi (as := [.inr (.inl (M.2 703 o0a a1.toNatClampNeg a3.toNatClampNeg)), .inr (.inl (0 : Int64)), .inr (.inl (1 : Int64))]) dX5_unlikeAt_22 cs_RX5_95 cb_X5_in rfl rfl (Nat.le_of_ble_eq_true rfl) (c_X5_in c4) ?_
      refine am_if_eq 66 dX5_unlikeAt_25 rfl (fun b19 => ?_) (fun b19 => ?_)
      · replace h := am_ifT b19 h
        obtain ⟨v6, ev6, h⟩ := am_letE h
        refine am_iinc (ls' := [(0, .inr (.inr (5, o0a, 0))), (1, .inl a1), (2, .inl a2), (3, .inl v6)]) dX5_unlikeAt_66 rfl ((congrArg (fun z => a3 + z) ic_1).trans ev6.symm) (Nat.le_of_ble_eq_true rfl) rfl ?_
        refine am_goto 2 dX5_unlikeAt_69 rfl ?_
        exact am_drop [0, 1, 2, 3] rfl (ih _ _ h hp)
      · replace h := am_ifF b19 h
        refine am_aload_n dX5_unlikeAt_28 rfl ?_
        refine am_getR (o' := o0a) dX5_unlikeAt_29 fl_RX5_21 sh_5 rfl rfl hk_5 ?_
        refine am_iload_n dX5_unlikeAt_32 rfl ?_
        obtain ⟨g7, h⟩ := am_grd h
        refine am_aaload dX5_unlikeAt_33 sh_603 rfl rfl hk_603 (am_inbE g7) ?_
        refine am_top (w := .inr (.inr (703, o0a, a2.toNatClampNeg))) rfl ?_
        refine am_iload_n dX5_unlikeAt_34 rfl ?_
        obtain ⟨g8, h⟩ := am_grd h
        refine am_laload dX5_unlikeAt_35 sh_703 hk_703 (am_inbE g8) ?_
        refine am_lconst dX5_unlikeAt_36 lc_0 ?_
        refine am_lconst dX5_unlikeAt_37 lc_1 ?_
        obtain ⟨r10, c9, h⟩ := am_bnd h
        refine am_callSi (as := [.inr (.inl (M.2 703 o0a a2.toNatClampNeg a3.toNatClampNeg)), .inr (.inl (0 : Int64)), .inr (.inl (1 : Int64))]) dX5_unlikeAt_38 cs_RX5_95 cb_X5_in rfl rfl (Nat.le_of_ble_eq_true rfl) (c_X5_in c9) ?_
        refine am_if_eq 66 dX5_unlikeAt_41 rfl (fun b18 => ?_) (fun b18 => ?_)
        · replace h := am_ifT b18 h
          obtain ⟨v11, ev11, h⟩ := am_letE h
          refine am_iinc (ls' := [(0, .inr (.inr (5, o0a, 0))), (1, .inl a1), (2, .inl a2), (3, .inl v11)]) dX5_unlikeAt_66 rfl ((congrArg (fun z => a3 + z) ic_1).trans ev11.symm) (Nat.le_of_ble_eq_true rfl) rfl ?_
          refine am_goto 2 dX5_unlikeAt_69 rfl ?_
          exact am_drop [0, 1, 2, 3] rfl (ih _ _ h hp)
        · replace h := am_ifF b18 h
          refine am_aload_n dX5_unlikeAt_44 rfl ?_
          refine am_getR (o' := o0a) dX5_unlikeAt_45 fl_RX5_21 sh_5 rfl rfl hk_5 ?_
          refine am_iload_n dX5_unlikeAt_48 rfl ?_
          obtain ⟨g12, h⟩ := am_grd h
          refine am_aaload dX5_unlikeAt_49 sh_603 rfl rfl hk_603 (am_inbE g12) ?_
          refine am_top (w := .inr (.inr (703, o0a, a1.toNatClampNeg))) rfl ?_
          refine am_iload_n dX5_unlikeAt_50 rfl ?_
          obtain ⟨g13, h⟩ := am_grd h
          refine am_laload dX5_unlikeAt_51 sh_703 hk_703 (am_inbE g13) ?_
          refine am_aload_n dX5_unlikeAt_52 rfl ?_
          refine am_getR (o' := o0a) dX5_unlikeAt_53 fl_RX5_21 sh_5 rfl rfl hk_5 ?_
          refine am_iload_n dX5_unlikeAt_56 rfl ?_
          obtain ⟨g14, h⟩ := am_grd h
          refine am_aaload dX5_unlikeAt_57 sh_603 rfl rfl hk_603 (am_inbE g14) ?_
          refine am_top (w := .inr (.inr (703, o0a, a2.toNatClampNeg))) rfl ?_
          refine am_iload_n dX5_unlikeAt_58 rfl ?_
          obtain ⟨g15, h⟩ := am_grd h
          refine am_laload dX5_unlikeAt_59 sh_703 hk_703 (am_inbE g15) ?_
          refine am_lcmp dX5_unlikeAt_60 ?_
          refine am_if_eq 66 dX5_unlikeAt_61 rfl (fun b17 => ?_) (fun b17 => ?_)
          · replace h := am_ifT b17 h
            obtain ⟨v16, ev16, h⟩ := am_letE h
            refine am_iinc (ls' := [(0, .inr (.inr (5, o0a, 0))), (1, .inl a1), (2, .inl a2), (3, .inl v16)]) dX5_unlikeAt_66 rfl ((congrArg (fun z => a3 + z) ic_1).trans ev16.symm) (Nat.le_of_ble_eq_true rfl) rfl ?_
            refine am_goto 2 dX5_unlikeAt_69 rfl ?_
            exact am_drop [0, 1, 2, 3] rfl (ih _ _ h hp)
          · replace h := am_ifF b17 h
            refine am_iload_n dX5_unlikeAt_64 rfl ?_
            obtain rfl := Option.some.inj h
            exact am_ireturn dX5_unlikeAt_65 rfl rfl hp
def f_X5_unlikeAt (M : am_M) (o : Nat) (x1 : Int32) (x2 : Int32) : Option (Int32) :=
  l_X5_unlikeAt_2 M o x1 x2 1000 (0 : Int32)
set_option maxHeartbeats 4000000 in
theorem w_X5_unlikeAt {K : am_K} {d : Nat} {post : Option am_V → am_M → Prop} {M : am_M} {o : Nat} {x1 : Int32} {x2 : Int32} {y : Int32} (h : f_X5_unlikeAt M o x1 x2 = some y) (hp : post (some (.inl y)) M) : am_W K (d + 1) m_X5_unlikeAt 0 [(0, .inr (.inr (5, o, 0))), (1, .inl x1), (2, .inl x2)] [] M post := by
  unfold f_X5_unlikeAt at h
  refine am_iconst dX5_unlikeAt_0 ic_0 ?_
  refine am_istore_n (ls' := [(0, .inr (.inr (5, o, 0))), (1, .inl x1), (2, .inl x2), (3, .inl (0 : Int32))]) dX5_unlikeAt_1 (Nat.le_of_ble_eq_true rfl) rfl ?_
  exact am_drop [0, 1, 2, 3] rfl (wl_X5_unlikeAt_2 _ _ _ h hp)
theorem c_X5_unlikeAt {K : am_K} {d : Nat} {M : am_M} {o : Nat} {x1 : Int32} {x2 : Int32} {y : Int32} (h : f_X5_unlikeAt M o x1 x2 = some y) : am_Met K (d + 1) m_X5_unlikeAt [.inr (.inr (5, o, 0)), .inl x1, .inl x2] M (fun q N => q = some (.inl y) ∧ N = M) :=
  am_Met_of cb_X5_unlikeAt (Nat.le_of_ble_eq_true rfl) (w_X5_unlikeAt h ⟨rfl, rfl⟩)
def l_X5_books_44 (o0a : Nat) (a1 : Int32) (a2 : Int32) (a4 : Int32) : Nat → Int32 → am_M → Option (am_M)
  | 0, _, _ => none
  | n + 1, a5, M => (if a4 < a5 then some M else if am_inb a4 25 = true then ((if a4 = 0 then some (1 : Int64) else some (0 : Int64)) : Option (Int64)).bind (fun z9 => if am_inb a5 25 = true then am_let (am_sl M 730 o0a a4.toNatClampNeg a5.toNatClampNeg z9) (fun M14 => ((if a4 ≤ 0 then some M14 else if am_inb a1 8 = true then if am_inb (a4 - (1 : Int32)) 40 = true then (f_X5_in M14 (M14.2 703 o0a a1.toNatClampNeg (a4 - (1 : Int32)).toNatClampNeg) (0 : Int64) (1 : Int64)).bind (fun r21 => ((if r21 = 0 then if am_inb a2 8 = true then if am_inb (a4 - (1 : Int32)) 40 = true then some (M14.2 703 o0a a2.toNatClampNeg (a4 - (1 : Int32)).toNatClampNeg) else none else none else if am_inb a1 8 = true then if am_inb (a4 - (1 : Int32)) 40 = true then some (M14.2 703 o0a a1.toNatClampNeg (a4 - (1 : Int32)).toNatClampNeg) else none else none) : Option (Int64)).bind (fun z22 => if am_inb a4 25 = true then if am_inb a5 25 = true then ((if a5 ≤ 0 then some (0 : Int64) else (if (lg_cmp z22 (0 : Int64)) = 0 then some (0 : Int64) else if am_inb (a4 - (1 : Int32)) 25 = true then if am_inb (a5 - (1 : Int32)) 25 = true then some (M14.2 730 o0a (a4 - (1 : Int32)).toNatClampNeg (a5 - (1 : Int32)).toNatClampNeg) else none else none)) : Option (Int64)).bind (fun z32 => if am_inb a5 25 = true then am_let (am_sl M14 730 o0a a4.toNatClampNeg a5.toNatClampNeg ((M14.2 730 o0a a4.toNatClampNeg a5.toNatClampNeg) + z32)) (fun M40 => if am_inb a4 25 = true then if am_inb a5 25 = true then ((if a4 ≤ a5 then some (0 : Int64) else (if (lg_cmp z22 (1 : Int64)) = 0 then some (0 : Int64) else if am_inb (a4 - (1 : Int32)) 25 = true then if am_inb a5 25 = true then some (M40.2 730 o0a (a4 - (1 : Int32)).toNatClampNeg a5.toNatClampNeg) else none else none)) : Option (Int64)).bind (fun z43 => if am_inb a5 25 = true then am_let (am_sl M40 730 o0a a4.toNatClampNeg a5.toNatClampNeg ((M40.2 730 o0a a4.toNatClampNeg a5.toNatClampNeg) + z43)) (fun M51 => some M51) else none) else none else none) else none) else none else none)) else none else none) : Option (am_M)).bind (fun z15 => if am_inb a4 25 = true then if am_inb a4 25 = true then if am_inb a5 25 = true then ((if (z15.1 728 o0a a4.toNatClampNeg a5.toNatClampNeg) = 0 then some (0 : Int64) else if am_inb a4 25 = true then if am_inb a5 25 = true then some (z15.2 730 o0a a4.toNatClampNeg a5.toNatClampNeg) else none else none) : Option (Int64)).bind (fun z56 => if am_inb a5 25 = true then am_let (am_sl z15 730 o0a a4.toNatClampNeg a5.toNatClampNeg z56) (fun M63 => am_let (a5 + (1 : Int32)) (fun v64 => l_X5_books_44 o0a a1 a2 a4 n v64 M63)) else none) else none else none else none)) else none) else none)
set_option maxHeartbeats 4000000 in
theorem wl_X5_books_44 {K : am_K} {d : Nat} {post : Option am_V → am_M → Prop} {o0a : Nat} {a1 : Int32} {a2 : Int32} {a4 : Int32} : ∀ (n : Nat) (a5 : Int32) (M : am_M) (x : am_M), l_X5_books_44 o0a a1 a2 a4 n a5 M = some x → am_W K (d + 3) m_X5_books 251 [(0, .inr (.inr (5, o0a, 0))), (1, .inl a1), (2, .inl a2), (4, .inl a4)] [] x post → am_W K (d + 3) m_X5_books 44 [(0, .inr (.inr (5, o0a, 0))), (1, .inl a1), (2, .inl a2), (4, .inl a4), (5, .inl a5)] [] M post := by
  intro n
  induction n with
  | zero => intro a5 M x h KX; cases h
  | succ n ih =>
    intro a5 M x h KX
    rw [l_X5_books_44] at h
    refine am_iload dX5_books_44 rfl ?_
    refine am_iload dX5_books_46 rfl ?_
    refine am_icmp_gt 251 dX5_books_48 rfl (fun b65 => ?_) (fun b65 => ?_)
    · replace h := am_ifT b65 h
      obtain rfl := Option.some.inj h
      exact am_drop [0, 1, 2, 4] rfl KX
    · replace h := am_ifF b65 h
      refine am_aload_n dX5_books_51 rfl ?_
      refine am_getR (o' := o0a) dX5_books_52 fl_RX5_69 sh_5 rfl rfl hk_5 ?_
      refine am_iload dX5_books_55 rfl ?_
      obtain ⟨g8, h⟩ := am_grd h
      refine am_aaload dX5_books_57 sh_630 rfl rfl hk_630 (am_inbE g8) ?_
      refine am_top (w := .inr (.inr (730, o0a, a4.toNatClampNeg))) rfl ?_
      refine am_iload dX5_books_58 rfl ?_
      refine am_iload dX5_books_60 rfl ?_
      obtain ⟨z9, h10, h⟩ := am_bnd h
      have KK11 : am_W K (d + 3) m_X5_books 70 [(0, .inr (.inr (5, o0a, 0))), (1, .inl a1), (2, .inl a2), (4, .inl a4), (5, .inl a5)] [.inr (.inl z9), .inl a5, .inr (.inr (730, o0a, a4.toNatClampNeg))] M post := by
        obtain ⟨g13, h⟩ := am_grd h
        obtain ⟨M14, eM14, h⟩ := am_letE h
        refine am_lastore dX5_books_70 sh_730 hk_730 (am_inbE g13) ?_
        refine am_mem eM14 ?_
        refine am_iload dX5_books_71 rfl ?_
        obtain ⟨z15, h16, h⟩ := am_bnd h
        have KK17 : am_W K (d + 3) m_X5_books 208 [(0, .inr (.inr (5, o0a, 0))), (1, .inl a1), (2, .inl a2), (4, .inl a4), (5, .inl a5)] [] z15 post := by
          refine am_aload_n dX5_books_208 rfl ?_
          refine am_getR (o' := o0a) dX5_books_209 fl_RX5_69 sh_5 rfl rfl hk_5 ?_
          refine am_iload dX5_books_212 rfl ?_
          obtain ⟨g53, h⟩ := am_grd h
          refine am_aaload dX5_books_214 sh_630 rfl rfl hk_630 (am_inbE g53) ?_
          refine am_top (w := .inr (.inr (730, o0a, a4.toNatClampNeg))) rfl ?_
          refine am_iload dX5_books_215 rfl ?_
          refine am_aload_n dX5_books_217 rfl ?_
          refine am_getR (o' := o0a) dX5_books_218 fl_RX5_66 sh_5 rfl rfl hk_5 ?_
          refine am_iload dX5_books_221 rfl ?_
          obtain ⟨g54, h⟩ := am_grd h
          refine am_aaload dX5_books_223 sh_628 rfl rfl hk_628 (am_inbE g54) ?_
          refine am_top (w := .inr (.inr (728, o0a, a4.toNatClampNeg))) rfl ?_
          refine am_iload dX5_books_224 rfl ?_
          obtain ⟨g55, h⟩ := am_grd h
          refine am_zaload dX5_books_226 sh_728 hk_728 (am_inbE g55) ?_
          obtain ⟨z56, h57, h⟩ := am_bnd h
          have KK58 : am_W K (d + 3) m_X5_books 244 [(0, .inr (.inr (5, o0a, 0))), (1, .inl a1), (2, .inl a2), (4, .inl a4), (5, .inl a5)] [.inr (.inl z56), .inl a5, .inr (.inr (730, o0a, a4.toNatClampNeg))] z15 post := by
            obtain ⟨g62, h⟩ := am_grd h
            obtain ⟨M63, eM63, h⟩ := am_letE h
            refine am_lastore dX5_books_244 sh_730 hk_730 (am_inbE g62) ?_
            refine am_mem eM63 ?_
            obtain ⟨v64, ev64, h⟩ := am_letE h
            refine am_iinc (ls' := [(0, .inr (.inr (5, o0a, 0))), (1, .inl a1), (2, .inl a2), (4, .inl a4), (5, .inl v64)]) dX5_books_245 rfl ((congrArg (fun z => a5 + z) ic_1).trans ev64.symm) (Nat.le_of_ble_eq_true rfl) rfl ?_
            refine am_goto 44 dX5_books_248 rfl ?_
            exact am_drop [0, 1, 2, 4, 5] rfl (ih _ _ _ h KX)
          clear h
          refine am_if_eq 243 dX5_books_227 rfl (fun b61 => ?_) (fun b61 => ?_)
          · replace h57 := am_ifT b61 h57
            refine am_lconst dX5_books_243 lc_0 ?_
            obtain rfl := Option.some.inj h57
            exact am_drop [0, 1, 2, 4, 5] rfl KK58
          · replace h57 := am_ifF b61 h57
            refine am_aload_n dX5_books_230 rfl ?_
            refine am_getR (o' := o0a) dX5_books_231 fl_RX5_69 sh_5 rfl rfl hk_5 ?_
            refine am_iload dX5_books_234 rfl ?_
            obtain ⟨g59, h57⟩ := am_grd h57
            refine am_aaload dX5_books_236 sh_630 rfl rfl hk_630 (am_inbE g59) ?_
            refine am_top (w := .inr (.inr (730, o0a, a4.toNatClampNeg))) rfl ?_
            refine am_iload dX5_books_237 rfl ?_
            obtain ⟨g60, h57⟩ := am_grd h57
            refine am_laload dX5_books_239 sh_730 hk_730 (am_inbE g60) ?_
            refine am_goto 244 dX5_books_240 rfl ?_
            obtain rfl := Option.some.inj h57
            exact am_drop [0, 1, 2, 4, 5] rfl KK58
        clear h
        refine am_if_le 208 dX5_books_73 rfl (fun b52 => ?_) (fun b52 => ?_)
        · replace h16 := am_ifT b52 h16
          obtain rfl := Option.some.inj h16
          exact am_drop [0, 1, 2, 4, 5] rfl KK17
        · replace h16 := am_ifF b52 h16
          refine am_aload_n dX5_books_76 rfl ?_
          refine am_getR (o' := o0a) dX5_books_77 fl_RX5_21 sh_5 rfl rfl hk_5 ?_
          refine am_iload_n dX5_books_80 rfl ?_
          obtain ⟨g18, h16⟩ := am_grd h16
          refine am_aaload dX5_books_81 sh_603 rfl rfl hk_603 (am_inbE g18) ?_
          refine am_top (w := .inr (.inr (703, o0a, a1.toNatClampNeg))) rfl ?_
          refine am_iload dX5_books_82 rfl ?_
          refine am_iconst dX5_books_84 ic_1 ?_
          refine am_isub dX5_books_85 ?_
          obtain ⟨g19, h16⟩ := am_grd h16
          refine am_laload dX5_books_86 sh_703 hk_703 (am_inbE g19) ?_
          refine am_lconst dX5_books_87 lc_0 ?_
          refine am_lconst dX5_books_88 lc_1 ?_
          obtain ⟨r21, c20, h16⟩ := am_bnd h16
          refine am_callSi (as := [.inr (.inl (M14.2 703 o0a a1.toNatClampNeg (a4 - (1 : Int32)).toNatClampNeg)), .inr (.inl (0 : Int64)), .inr (.inl (1 : Int64))]) dX5_books_89 cs_RX5_95 cb_X5_in rfl rfl (Nat.le_of_ble_eq_true rfl) (c_X5_in c20) ?_
          obtain ⟨z22, h23, h16⟩ := am_bnd h16
          have KK24 : am_W K (d + 3) m_X5_books 120 [(0, .inr (.inr (5, o0a, 0))), (1, .inl a1), (2, .inl a2), (4, .inl a4), (5, .inl a5)] [.inr (.inl z22)] M14 post := by
            refine am_lstore (ls' := [(0, .inr (.inr (5, o0a, 0))), (1, .inl a1), (2, .inl a2), (4, .inl a4), (5, .inl a5), (6, .inr (.inl z22))]) dX5_books_120 (Nat.le_of_ble_eq_true rfl) rfl ?_
            refine am_aload_n dX5_books_122 rfl ?_
            refine am_getR (o' := o0a) dX5_books_123 fl_RX5_69 sh_5 rfl rfl hk_5 ?_
            refine am_iload dX5_books_126 rfl ?_
            obtain ⟨g30, h16⟩ := am_grd h16
            refine am_aaload dX5_books_128 sh_630 rfl rfl hk_630 (am_inbE g30) ?_
            refine am_top (w := .inr (.inr (730, o0a, a4.toNatClampNeg))) rfl ?_
            refine am_iload dX5_books_129 rfl ?_
            refine am_dup2 dX5_books_131 rfl rfl ?_
            obtain ⟨g31, h16⟩ := am_grd h16
            refine am_laload dX5_books_132 sh_730 hk_730 (am_inbE g31) ?_
            refine am_iload dX5_books_133 rfl ?_
            obtain ⟨z32, h33, h16⟩ := am_bnd h16
            have KK34 : am_W K (d + 3) m_X5_books 163 [(0, .inr (.inr (5, o0a, 0))), (1, .inl a1), (2, .inl a2), (4, .inl a4), (5, .inl a5), (6, .inr (.inl z22))] [.inr (.inl z32), .inr (.inl (M14.2 730 o0a a4.toNatClampNeg a5.toNatClampNeg)), .inl a5, .inr (.inr (730, o0a, a4.toNatClampNeg))] M14 post := by
              refine am_ladd dX5_books_163 ?_
              obtain ⟨g39, h16⟩ := am_grd h16
              obtain ⟨M40, eM40, h16⟩ := am_letE h16
              refine am_lastore dX5_books_164 sh_730 hk_730 (am_inbE g39) ?_
              refine am_mem eM40 ?_
              refine am_aload_n dX5_books_165 rfl ?_
              refine am_getR (o' := o0a) dX5_books_166 fl_RX5_69 sh_5 rfl rfl hk_5 ?_
              refine am_iload dX5_books_169 rfl ?_
              obtain ⟨g41, h16⟩ := am_grd h16
              refine am_aaload dX5_books_171 sh_630 rfl rfl hk_630 (am_inbE g41) ?_
              refine am_top (w := .inr (.inr (730, o0a, a4.toNatClampNeg))) rfl ?_
              refine am_iload dX5_books_172 rfl ?_
              refine am_dup2 dX5_books_174 rfl rfl ?_
              obtain ⟨g42, h16⟩ := am_grd h16
              refine am_laload dX5_books_175 sh_730 hk_730 (am_inbE g42) ?_
              refine am_iload dX5_books_176 rfl ?_
              refine am_iload dX5_books_178 rfl ?_
              obtain ⟨z43, h44, h16⟩ := am_bnd h16
              have KK45 : am_W K (d + 3) m_X5_books 206 [(0, .inr (.inr (5, o0a, 0))), (1, .inl a1), (2, .inl a2), (4, .inl a4), (5, .inl a5)] [.inr (.inl z43), .inr (.inl (M40.2 730 o0a a4.toNatClampNeg a5.toNatClampNeg)), .inl a5, .inr (.inr (730, o0a, a4.toNatClampNeg))] M40 post := by
                refine am_ladd dX5_books_206 ?_
                obtain ⟨g50, h16⟩ := am_grd h16
                obtain ⟨M51, eM51, h16⟩ := am_letE h16
                refine am_lastore dX5_books_207 sh_730 hk_730 (am_inbE g50) ?_
                refine am_mem eM51 ?_
                obtain rfl := Option.some.inj h16
                exact am_drop [0, 1, 2, 4, 5] rfl KK17
              clear h16
              refine am_icmp_ge 205 dX5_books_180 rfl (fun b49 => ?_) (fun b49 => ?_)
              · replace h44 := am_ifT b49 h44
                refine am_lconst dX5_books_205 lc_0 ?_
                obtain rfl := Option.some.inj h44
                exact am_drop [0, 1, 2, 4, 5] rfl KK45
              · replace h44 := am_ifF b49 h44
                refine am_lload dX5_books_183 rfl ?_
                refine am_lconst dX5_books_185 lc_1 ?_
                refine am_lcmp dX5_books_186 ?_
                refine am_if_eq 205 dX5_books_187 rfl (fun b48 => ?_) (fun b48 => ?_)
                · replace h44 := am_ifT b48 h44
                  refine am_lconst dX5_books_205 lc_0 ?_
                  obtain rfl := Option.some.inj h44
                  exact am_drop [0, 1, 2, 4, 5] rfl KK45
                · replace h44 := am_ifF b48 h44
                  refine am_aload_n dX5_books_190 rfl ?_
                  refine am_getR (o' := o0a) dX5_books_191 fl_RX5_69 sh_5 rfl rfl hk_5 ?_
                  refine am_iload dX5_books_194 rfl ?_
                  refine am_iconst dX5_books_196 ic_1 ?_
                  refine am_isub dX5_books_197 ?_
                  obtain ⟨g46, h44⟩ := am_grd h44
                  refine am_aaload dX5_books_198 sh_630 rfl rfl hk_630 (am_inbE g46) ?_
                  refine am_top (w := .inr (.inr (730, o0a, (a4 - (1 : Int32)).toNatClampNeg))) rfl ?_
                  refine am_iload dX5_books_199 rfl ?_
                  obtain ⟨g47, h44⟩ := am_grd h44
                  refine am_laload dX5_books_201 sh_730 hk_730 (am_inbE g47) ?_
                  refine am_goto 206 dX5_books_202 rfl ?_
                  obtain rfl := Option.some.inj h44
                  exact am_drop [0, 1, 2, 4, 5] rfl KK45
            clear h16
            refine am_if_le 162 dX5_books_135 rfl (fun b38 => ?_) (fun b38 => ?_)
            · replace h33 := am_ifT b38 h33
              refine am_lconst dX5_books_162 lc_0 ?_
              obtain rfl := Option.some.inj h33
              exact am_drop [0, 1, 2, 4, 5, 6] rfl KK34
            · replace h33 := am_ifF b38 h33
              refine am_lload dX5_books_138 rfl ?_
              refine am_lconst dX5_books_140 lc_0 ?_
              refine am_lcmp dX5_books_141 ?_
              refine am_if_eq 162 dX5_books_142 rfl (fun b37 => ?_) (fun b37 => ?_)
              · replace h33 := am_ifT b37 h33
                refine am_lconst dX5_books_162 lc_0 ?_
                obtain rfl := Option.some.inj h33
                exact am_drop [0, 1, 2, 4, 5, 6] rfl KK34
              · replace h33 := am_ifF b37 h33
                refine am_aload_n dX5_books_145 rfl ?_
                refine am_getR (o' := o0a) dX5_books_146 fl_RX5_69 sh_5 rfl rfl hk_5 ?_
                refine am_iload dX5_books_149 rfl ?_
                refine am_iconst dX5_books_151 ic_1 ?_
                refine am_isub dX5_books_152 ?_
                obtain ⟨g35, h33⟩ := am_grd h33
                refine am_aaload dX5_books_153 sh_630 rfl rfl hk_630 (am_inbE g35) ?_
                refine am_top (w := .inr (.inr (730, o0a, (a4 - (1 : Int32)).toNatClampNeg))) rfl ?_
                refine am_iload dX5_books_154 rfl ?_
                refine am_iconst dX5_books_156 ic_1 ?_
                refine am_isub dX5_books_157 ?_
                obtain ⟨g36, h33⟩ := am_grd h33
                refine am_laload dX5_books_158 sh_730 hk_730 (am_inbE g36) ?_
                refine am_goto 163 dX5_books_159 rfl ?_
                obtain rfl := Option.some.inj h33
                exact am_drop [0, 1, 2, 4, 5, 6] rfl KK34
          clear h16
          refine am_if_eq 109 dX5_books_92 rfl (fun b29 => ?_) (fun b29 => ?_)
          · replace h23 := am_ifT b29 h23
            refine am_aload_n dX5_books_109 rfl ?_
            refine am_getR (o' := o0a) dX5_books_110 fl_RX5_21 sh_5 rfl rfl hk_5 ?_
            refine am_iload_n dX5_books_113 rfl ?_
            obtain ⟨g25, h23⟩ := am_grd h23
            refine am_aaload dX5_books_114 sh_603 rfl rfl hk_603 (am_inbE g25) ?_
            refine am_top (w := .inr (.inr (703, o0a, a2.toNatClampNeg))) rfl ?_
            refine am_iload dX5_books_115 rfl ?_
            refine am_iconst dX5_books_117 ic_1 ?_
            refine am_isub dX5_books_118 ?_
            obtain ⟨g26, h23⟩ := am_grd h23
            refine am_laload dX5_books_119 sh_703 hk_703 (am_inbE g26) ?_
            obtain rfl := Option.some.inj h23
            exact am_drop [0, 1, 2, 4, 5] rfl KK24
          · replace h23 := am_ifF b29 h23
            refine am_aload_n dX5_books_95 rfl ?_
            refine am_getR (o' := o0a) dX5_books_96 fl_RX5_21 sh_5 rfl rfl hk_5 ?_
            refine am_iload_n dX5_books_99 rfl ?_
            obtain ⟨g27, h23⟩ := am_grd h23
            refine am_aaload dX5_books_100 sh_603 rfl rfl hk_603 (am_inbE g27) ?_
            refine am_top (w := .inr (.inr (703, o0a, a1.toNatClampNeg))) rfl ?_
            refine am_iload dX5_books_101 rfl ?_
            refine am_iconst dX5_books_103 ic_1 ?_
            refine am_isub dX5_books_104 ?_
            obtain ⟨g28, h23⟩ := am_grd h23
            refine am_laload dX5_books_105 sh_703 hk_703 (am_inbE g28) ?_
            refine am_goto 120 dX5_books_106 rfl ?_
            obtain rfl := Option.some.inj h23
            exact am_drop [0, 1, 2, 4, 5] rfl KK24
      clear h
      refine am_if_ne 69 dX5_books_62 rfl (fun b12 => ?_) (fun b12 => ?_)
      · replace h10 := am_ifF b12 h10
        refine am_lconst dX5_books_69 lc_0 ?_
        obtain rfl := Option.some.inj h10
        exact am_drop [0, 1, 2, 4, 5] rfl KK11
      · replace h10 := am_ifT b12 h10
        refine am_lconst dX5_books_65 lc_1 ?_
        refine am_goto 70 dX5_books_66 rfl ?_
        obtain rfl := Option.some.inj h10
        exact am_drop [0, 1, 2, 4, 5] rfl KK11
def l_X5_books_32 (o0a : Nat) (a1 : Int32) (a2 : Int32) : Nat → Int32 → am_M → Option (am_M)
  | 0, _, _ => none
  | n + 1, a4, M => (if (M.1 5 o0a 0 29) < a4 then some M else (l_X5_books_44 o0a a1 a2 a4 1000 (0 : Int32) M).bind (fun z66 => am_let (a4 + (1 : Int32)) (fun v69 => l_X5_books_32 o0a a1 a2 n v69 z66)))
set_option maxHeartbeats 4000000 in
theorem wl_X5_books_32 {K : am_K} {d : Nat} {post : Option am_V → am_M → Prop} {o0a : Nat} {a1 : Int32} {a2 : Int32} : ∀ (n : Nat) (a4 : Int32) (M : am_M) (x : am_M), l_X5_books_32 o0a a1 a2 n a4 M = some x → am_W K (d + 3) m_X5_books 257 [(0, .inr (.inr (5, o0a, 0)))] [] x post → am_W K (d + 3) m_X5_books 32 [(0, .inr (.inr (5, o0a, 0))), (1, .inl a1), (2, .inl a2), (4, .inl a4)] [] M post := by
  intro n
  induction n with
  | zero => intro a4 M x h KX; cases h
  | succ n ih =>
    intro a4 M x h KX
    rw [l_X5_books_32] at h
    refine am_iload dX5_books_32 rfl ?_
    refine am_aload_n dX5_books_34 rfl ?_
    refine am_getI dX5_books_35 fl_RX5_254 sh_5 rfl hk_5 ?_
    refine am_icmp_gt 257 dX5_books_38 rfl (fun b70 => ?_) (fun b70 => ?_)
    · replace h := am_ifT b70 h
      obtain rfl := Option.some.inj h
      exact am_drop [0] rfl KX
    · replace h := am_ifF b70 h
      refine am_iconst dX5_books_41 ic_0 ?_
      refine am_istore (ls' := [(0, .inr (.inr (5, o0a, 0))), (1, .inl a1), (2, .inl a2), (4, .inl a4), (5, .inl (0 : Int32))]) dX5_books_42 (Nat.le_of_ble_eq_true rfl) rfl ?_
      obtain ⟨z66, h67, h⟩ := am_bnd h
      have KK68 : am_W K (d + 3) m_X5_books 251 [(0, .inr (.inr (5, o0a, 0))), (1, .inl a1), (2, .inl a2), (4, .inl a4)] [] z66 post := by
        obtain ⟨v69, ev69, h⟩ := am_letE h
        refine am_iinc (ls' := [(0, .inr (.inr (5, o0a, 0))), (1, .inl a1), (2, .inl a2), (4, .inl v69)]) dX5_books_251 rfl ((congrArg (fun z => a4 + z) ic_1).trans ev69.symm) (Nat.le_of_ble_eq_true rfl) rfl ?_
        refine am_goto 32 dX5_books_254 rfl ?_
        exact am_drop [0, 1, 2, 4] rfl (ih _ _ _ h KX)
      exact am_drop [0, 1, 2, 4, 5] rfl (wl_X5_books_44 _ _ _ _ h67 KK68)
def f_X5_books (M : am_M) (o : Nat) (x1 : Int32) (x2 : Int32) : Option (Int32 × am_M) :=
  (f_X5_noBooks M o x1 x2).bind (fun r2 => am_let r2.1 (fun v3 => (if v3 = 0 then (f_X5_unlikeAt r2.2 o x1 x2).bind (fun r5 => (if r5 = (-1 : Int32) then (f_X5_seeHeaps r2.2 o).bind (fun r7 => (l_X5_books_32 o x1 x2 1000 (0 : Int32) r7).bind (fun z71 => if am_inb (z71.1 5 o 0 29) 25 = true then (f_X5_allA z71 o).bind (fun r76 => if am_inb r76 25 = true then some ((z71.2 730 o (z71.1 5 o 0 29).toNatClampNeg r76.toNatClampNeg).toInt32, z71) else none) else none)) else some ((0 : Int32), r2.2))) else some (v3, r2.2))))
set_option maxHeartbeats 4000000 in
theorem w_X5_books {K : am_K} {d : Nat} {post : Option am_V → am_M → Prop} {M : am_M} {o : Nat} {x1 : Int32} {x2 : Int32} {y : Int32 × am_M} (h : f_X5_books M o x1 x2 = some y) (hp : post (some (.inl y.1)) y.2) : am_W K (d + 3) m_X5_books 0 [(0, .inr (.inr (5, o, 0))), (1, .inl x1), (2, .inl x2)] [] M post := by
  unfold f_X5_books at h
  refine am_aload_n dX5_books_0 rfl ?_
  refine am_iload_n dX5_books_1 rfl ?_
  refine am_iload_n dX5_books_2 rfl ?_
  obtain ⟨r2, c1, h⟩ := am_bnd h
  refine am_callVi (as := [.inl x1, .inl x2]) dX5_books_3 cv_RX5_354 cb_X5_noBooks sh_5 rfl hk_5 rfl rfl (Nat.le_of_ble_eq_true rfl) (c_X5_noBooks c1) ?_
  obtain ⟨v3, ev3, h⟩ := am_letE h
  refine am_topI ev3 ?_
  refine am_istore_n (ls' := [(0, .inr (.inr (5, o, 0))), (1, .inl x1), (2, .inl x2), (3, .inl v3)]) dX5_books_6 (Nat.le_of_ble_eq_true rfl) rfl ?_
  refine am_iload_n dX5_books_7 rfl ?_
  refine am_if_eq 13 dX5_books_8 rfl (fun b79 => ?_) (fun b79 => ?_)
  · replace h := am_ifT b79 h
    refine am_aload_n dX5_books_13 rfl ?_
    refine am_iload_n dX5_books_14 rfl ?_
    refine am_iload_n dX5_books_15 rfl ?_
    obtain ⟨r5, c4, h⟩ := am_bnd h
    refine am_callVi (as := [.inl x1, .inl x2]) dX5_books_16 cv_RX5_357 cb_X5_unlikeAt sh_5 rfl hk_5 rfl rfl (Nat.le_of_ble_eq_true rfl) (c_X5_unlikeAt c4) ?_
    refine am_iconst dX5_books_19 ic_m1 ?_
    refine am_icmp_eq 25 dX5_books_20 rfl (fun b78 => ?_) (fun b78 => ?_)
    · replace h := am_ifT b78 h
      refine am_aload_n dX5_books_25 rfl ?_
      obtain ⟨r7, c6, h⟩ := am_bnd h
      refine am_callVv (as := []) dX5_books_26 cv_RX5_263 cb_X5_seeHeaps sh_5 rfl hk_5 rfl rfl (Nat.le_of_ble_eq_true rfl) (c_X5_seeHeaps c6) ?_
      refine am_iconst dX5_books_29 ic_0 ?_
      refine am_istore (ls' := [(0, .inr (.inr (5, o, 0))), (1, .inl x1), (2, .inl x2), (3, .inl v3), (4, .inl (0 : Int32))]) dX5_books_30 (Nat.le_of_ble_eq_true rfl) rfl ?_
      obtain ⟨z71, h72, h⟩ := am_bnd h
      have KK73 : am_W K (d + 3) m_X5_books 257 [(0, .inr (.inr (5, o, 0)))] [] z71 post := by
        refine am_aload_n dX5_books_257 rfl ?_
        refine am_getR (o' := o) dX5_books_258 fl_RX5_69 sh_5 rfl rfl hk_5 ?_
        refine am_aload_n dX5_books_261 rfl ?_
        refine am_getI dX5_books_262 fl_RX5_254 sh_5 rfl hk_5 ?_
        obtain ⟨g74, h⟩ := am_grd h
        refine am_aaload dX5_books_265 sh_630 rfl rfl hk_630 (am_inbE g74) ?_
        refine am_top (w := .inr (.inr (730, o, (z71.1 5 o 0 29).toNatClampNeg))) rfl ?_
        refine am_aload_n dX5_books_266 rfl ?_
        obtain ⟨r76, c75, h⟩ := am_bnd h
        refine am_callVi (as := []) dX5_books_267 cv_RX5_133 cb_X5_allA sh_5 rfl hk_5 rfl rfl (Nat.le_of_ble_eq_true rfl) (c_X5_allA c75) ?_
        obtain ⟨g77, h⟩ := am_grd h
        refine am_laload dX5_books_270 sh_730 hk_730 (am_inbE g77) ?_
        refine am_l2i dX5_books_271 ?_
        obtain rfl := Option.some.inj h
        exact am_ireturn dX5_books_272 rfl rfl hp
      exact am_drop [0, 1, 2, 4] rfl (wl_X5_books_32 _ _ _ _ h72 KK73)
    · replace h := am_ifF b78 h
      refine am_iconst dX5_books_23 ic_0 ?_
      obtain rfl := Option.some.inj h
      exact am_ireturn dX5_books_24 rfl rfl hp
  · replace h := am_ifF b79 h
    refine am_iload_n dX5_books_11 rfl ?_
    obtain rfl := Option.some.inj h
    exact am_ireturn dX5_books_12 rfl rfl hp
theorem c_X5_books {K : am_K} {d : Nat} {M : am_M} {o : Nat} {x1 : Int32} {x2 : Int32} {y : Int32 × am_M} (h : f_X5_books M o x1 x2 = some y) : am_Met K (d + 3) m_X5_books [.inr (.inr (5, o, 0)), .inl x1, .inl x2] M (fun q N => q = some (.inl y.1) ∧ N = y.2) :=
  am_Met_of cb_X5_books (Nat.le_of_ble_eq_true rfl) (w_X5_books h ⟨rfl, rfl⟩)
