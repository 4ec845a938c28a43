def f_X5_unlike (M : am_M) (o : Nat) (x1 : Int32) (x2 : Int32) : Option (Int32 × am_M) :=
  (f_X5_noBooks M o x1 x2).bind (fun r2 => am_let r2.1 (fun v3 => (if v3 = 0 then (f_X5_unlikeAt r2.2 o x1 x2).bind (fun r5 => some (r5, r2.2)) else some (v3, r2.2))))
set_option maxHeartbeats 4000000 in
theorem w_X5_unlike {K : am_K} {d : Nat} {post : Option am_V → am_M → Prop} {M : am_M} {o : Nat} {x1 : Int32} {x2 : Int32} {y : Int32 × am_M} (h : f_X5_unlike M o x1 x2 = some y) (hp : post (some (.inl y.1)) y.2) : am_W K (d + 3) m_X5_unlike 0 [(0, .inr (.inr (5, o, 0))), (1, .inl x1), (2, .inl x2)] [] M post := by
  unfold f_X5_unlike at h
  refine am_aload_n dX5_unlike_0 rfl ?_
  refine am_iload_n dX5_unlike_1 rfl ?_
  refine am_iload_n dX5_unlike_2 rfl ?_
  obtain ⟨r2, c1, h⟩ := am_bnd h
  refine am_callVi (as := [.inl x1, .inl x2]) dX5_unlike_3 cv_RX5_354 cb_X5_noBooks sh_5 rfl hk_5 rfl rfl (Nat.le_of_ble_eq_true rfl) (c_X5_noBooks c1) ?_
  obtain ⟨v3, ev3, h⟩ := am_letE h
  refine am_topI ev3 ?_
  refine am_istore_n (ls' := [(0, .inr (.inr (5, o, 0))), (1, .inl x1), (2, .inl x2), (3, .inl v3)]) dX5_unlike_6 (Nat.le_of_ble_eq_true rfl) rfl ?_
  refine am_iload_n dX5_unlike_7 rfl ?_
  refine am_if_eq 15 dX5_unlike_8 rfl (fun b6 => ?_) (fun b6 => ?_)
  · replace h := am_ifT b6 h
    refine am_aload_n dX5_unlike_15 rfl ?_
    refine am_iload_n dX5_unlike_16 rfl ?_
    refine am_iload_n dX5_unlike_17 rfl ?_
    obtain ⟨r5, c4, h⟩ := am_bnd h
    refine am_callVi (as := [.inl x1, .inl x2]) dX5_unlike_18 cv_RX5_357 cb_X5_unlikeAt sh_5 rfl hk_5 rfl rfl (Nat.le_of_ble_eq_true rfl) (c_X5_unlikeAt c4) ?_
    obtain rfl := Option.some.inj h
    exact am_ireturn dX5_unlike_21 rfl rfl hp
  · replace h := am_ifF b6 h
    refine am_iload_n dX5_unlike_11 rfl ?_
    refine am_goto 21 dX5_unlike_12 rfl ?_
    obtain rfl := Option.some.inj h
    exact am_ireturn dX5_unlike_21 rfl rfl hp
theorem c_X5_unlike {K : am_K} {d : Nat} {M : am_M} {o : Nat} {x1 : Int32} {x2 : Int32} {y : Int32 × am_M} (h : f_X5_unlike M o x1 x2 = some y) : am_Met K (d + 3) m_X5_unlike [.inr (.inr (5, o, 0)), .inl x1, .inl x2] M (fun q N => q = some (.inl y.1) ∧ N = y.2) :=
  am_Met_of cb_X5_unlike (Nat.le_of_ble_eq_true rfl) (w_X5_unlike h ⟨rfl, rfl⟩)
def f_X5_below (M : am_M) (o : Nat) (x1 : Int32) : Option (Int32 × am_M) :=
  am_let (am_si M 5 o 0 18 (((M.1 5 o 0 18) * (1103515245 : Int32)) + (12345 : Int32))) (fun M1 => if ¬ x1 = 0 then some ((((M1.1 5 o 0 18).toUInt32 >>> ((16 : Int32).toUInt32 &&& Int32.toUInt32 31)).toInt32) - (((M1.1 5 o 0 18).toUInt32 >>> ((16 : Int32).toUInt32 &&& Int32.toUInt32 31)).toInt32) / x1 * x1, M1) else none)
set_option maxHeartbeats 4000000 in
theorem w_X5_below {K : am_K} {d : Nat} {post : Option am_V → am_M → Prop} {M : am_M} {o : Nat} {x1 : Int32} {y : Int32 × am_M} (h : f_X5_below M o x1 = some y) (hp : post (some (.inl y.1)) y.2) : am_W K d m_X5_below 0 [(0, .inr (.inr (5, o, 0))), (1, .inl x1)] [] M post := by
  unfold f_X5_below at h
  refine am_aload_n dX5_below_0 rfl ?_
  refine am_aload_n dX5_below_1 rfl ?_
  refine am_getI dX5_below_2 fl_RX5_57 sh_5 rfl hk_5 ?_
  refine am_ldcw dX5_below_5 kc_RX5_360 ?_
  refine am_imul dX5_below_8 ?_
  refine am_sipush dX5_below_9 sp_12345 ?_
  refine am_iadd dX5_below_12 ?_
  obtain ⟨M1, eM1, h⟩ := am_letE h
  refine am_putI dX5_below_13 fl_RX5_57 fp_X5_18 sh_5 rfl rfl rfl hk_5 ?_
  refine am_mem eM1 ?_
  refine am_aload_n dX5_below_16 rfl ?_
  refine am_getI dX5_below_17 fl_RX5_57 sh_5 rfl hk_5 ?_
  refine am_bipush dX5_below_20 bp_16 ?_
  refine am_iushr dX5_below_22 ?_
  refine am_iload_n dX5_below_23 rfl ?_
  obtain ⟨g2, h⟩ := am_grd h
  refine am_irem dX5_below_24 g2 ?_
  obtain rfl := Option.some.inj h
  exact am_ireturn dX5_below_25 rfl rfl hp
theorem c_X5_below {K : am_K} {d : Nat} {M : am_M} {o : Nat} {x1 : Int32} {y : Int32 × am_M} (h : f_X5_below M o x1 = some y) : am_Met K d m_X5_below [.inr (.inr (5, o, 0)), .inl x1] M (fun q N => q = some (.inl y.1) ∧ N = y.2) :=
  am_Met_of cb_X5_below (Nat.le_of_ble_eq_true rfl) (w_X5_below h ⟨rfl, rfl⟩)
def f_X5_drawOne (M : am_M) (o : Nat) : Option (Int32 × am_M) :=
  (f_X5_leftNow M o (1 : Int32)).bind (fun r2 => (f_X5_leftNow M o (0 : Int32)).bind (fun r4 => (f_X5_below M o (r2 + r4)).bind (fun r6 => ((if r2 ≤ r6.1 then some (0 : Int32) else some (1 : Int32)) : Option (Int32)).bind (fun z7 => am_let (am_si r6.2 5 o 0 16 ((r6.2.1 5 o 0 16) + (1 : Int32))) (fun M11 => ((if z7 = 0 then some (0 : Int32) else some (1 : Int32)) : Option (Int32)).bind (fun z12 => if am_inb (r6.2.1 5 o 0 16) 24 = true then am_let (am_si M11 617 o 0 (r6.2.1 5 o 0 16).toNatClampNeg z12) (fun M17 => (if z7 = 0 then some ((0 : Int32), M17) else some ((1 : Int32), M17))) else none))))))
set_option maxHeartbeats 4000000 in
theorem w_X5_drawOne {K : am_K} {d : Nat} {post : Option am_V → am_M → Prop} {M : am_M} {o : Nat} {y : Int32 × am_M} (h : f_X5_drawOne M o = some y) (hp : post (some (.inl y.1)) y.2) : am_W K (d + 2) m_X5_drawOne 0 [(0, .inr (.inr (5, o, 0)))] [] M post := by
  unfold f_X5_drawOne at h
  refine am_aload_n dX5_drawOne_0 rfl ?_
  refine am_iconst dX5_drawOne_1 ic_1 ?_
  obtain ⟨r2, c1, h⟩ := am_bnd h
  refine am_callVi (as := [.inl (1 : Int32)]) dX5_drawOne_2 cv_RX5_289 cb_X5_leftNow sh_5 rfl hk_5 rfl rfl (Nat.le_of_ble_eq_true rfl) (c_X5_leftNow c1) ?_
  refine am_istore_n (ls' := [(0, .inr (.inr (5, o, 0))), (1, .inl r2)]) dX5_drawOne_5 (Nat.le_of_ble_eq_true rfl) rfl ?_
  refine am_aload_n dX5_drawOne_6 rfl ?_
  refine am_iload_n dX5_drawOne_7 rfl ?_
  refine am_aload_n dX5_drawOne_8 rfl ?_
  refine am_iconst dX5_drawOne_9 ic_0 ?_
  obtain ⟨r4, c3, h⟩ := am_bnd h
  refine am_callVi (as := [.inl (0 : Int32)]) dX5_drawOne_10 cv_RX5_289 cb_X5_leftNow sh_5 rfl hk_5 rfl rfl (Nat.le_of_ble_eq_true rfl) (c_X5_leftNow c3) ?_
  refine am_iadd dX5_drawOne_13 ?_
  obtain ⟨r6, c5, h⟩ := am_bnd h
  refine am_callVi (as := [.inl (r2 + r4)]) dX5_drawOne_14 cv_RX5_361 cb_X5_below sh_5 rfl hk_5 rfl rfl (Nat.le_of_ble_eq_true rfl) (c_X5_below c5) ?_
  refine am_iload_n dX5_drawOne_17 rfl ?_
  obtain ⟨z7, h8, h⟩ := am_bnd h
  have KK9 : am_W K (d + 2) m_X5_drawOne 26 [(0, .inr (.inr (5, o, 0)))] [.inl z7] r6.2 post := by
    refine am_istore_n (ls' := [(0, .inr (.inr (5, o, 0))), (2, .inl z7)]) dX5_drawOne_26 (Nat.le_of_ble_eq_true rfl) rfl ?_
    refine am_aload_n dX5_drawOne_27 rfl ?_
    refine am_getR (o' := o) dX5_drawOne_28 fl_RX5_54 sh_5 rfl rfl hk_5 ?_
    refine am_aload_n dX5_drawOne_31 rfl ?_
    refine am_dup dX5_drawOne_32 rfl ?_
    refine am_getI dX5_drawOne_33 fl_RX5_137 sh_5 rfl hk_5 ?_
    refine am_dup_x1 dX5_drawOne_36 rfl rfl ?_
    refine am_iconst dX5_drawOne_37 ic_1 ?_
    refine am_iadd dX5_drawOne_38 ?_
    obtain ⟨M11, eM11, h⟩ := am_letE h
    refine am_putI dX5_drawOne_39 fl_RX5_137 fp_X5_16 sh_5 rfl rfl rfl hk_5 ?_
    refine am_mem eM11 ?_
    refine am_iload_n dX5_drawOne_42 rfl ?_
    obtain ⟨z12, h13, h⟩ := am_bnd h
    have KK14 : am_W K (d + 2) m_X5_drawOne 51 [(2, .inl z7)] [.inl z12, .inl (r6.2.1 5 o 0 16), .inr (.inr (617, o, 0))] M11 post := by
      obtain ⟨g16, h⟩ := am_grd h
      obtain ⟨M17, eM17, h⟩ := am_letE h
      refine am_iastore dX5_drawOne_51 sh_617 hk_617 (am_inbE g16) ?_
      refine am_mem eM17 ?_
      refine am_iload_n dX5_drawOne_52 rfl ?_
      refine am_if_eq 60 dX5_drawOne_53 rfl (fun b18 => ?_) (fun b18 => ?_)
      · replace h := am_ifT b18 h
        refine am_iconst dX5_drawOne_60 ic_0 ?_
        obtain rfl := Option.some.inj h
        exact am_ireturn dX5_drawOne_61 rfl rfl hp
      · replace h := am_ifF b18 h
        refine am_iconst dX5_drawOne_56 ic_1 ?_
        refine am_goto 61 dX5_drawOne_57 rfl ?_
        obtain rfl := Option.some.inj h
        exact am_ireturn dX5_drawOne_61 rfl rfl hp
    clear h
    refine am_if_eq 50 dX5_drawOne_43 rfl (fun b15 => ?_) (fun b15 => ?_)
    · replace h13 := am_ifT b15 h13
      refine am_iconst dX5_drawOne_50 ic_0 ?_
      obtain rfl := Option.some.inj h13
      exact am_drop [2] rfl KK14
    · replace h13 := am_ifF b15 h13
      refine am_iconst dX5_drawOne_46 ic_1 ?_
      refine am_goto 51 dX5_drawOne_47 rfl ?_
      obtain rfl := Option.some.inj h13
      exact am_drop [2] rfl KK14
  clear h
  refine am_icmp_ge 25 dX5_drawOne_18 rfl (fun b10 => ?_) (fun b10 => ?_)
  · replace h8 := am_ifT b10 h8
    refine am_iconst dX5_drawOne_25 ic_0 ?_
    obtain rfl := Option.some.inj h8
    exact am_drop [0] rfl KK9
  · replace h8 := am_ifF b10 h8
    refine am_iconst dX5_drawOne_21 ic_1 ?_
    refine am_goto 26 dX5_drawOne_22 rfl ?_
    obtain rfl := Option.some.inj h8
    exact am_drop [0] rfl KK9
theorem c_X5_drawOne {K : am_K} {d : Nat} {M : am_M} {o : Nat} {y : Int32 × am_M} (h : f_X5_drawOne M o = some y) : am_Met K (d + 2) m_X5_drawOne [.inr (.inr (5, o, 0))] M (fun q N => q = some (.inl y.1) ∧ N = y.2) :=
  am_Met_of cb_X5_drawOne (Nat.le_of_ble_eq_true rfl) (w_X5_drawOne h ⟨rfl, rfl⟩)
def f_X5_draw (M : am_M) (o : Nat) : Option (Int32 × am_M) :=
  (f_X5_all M o).bind (fun r2 => (if r2 ≤ (M.1 5 o 0 16) then (f_X5_refuse M o (-5 : Int32)).bind (fun r4 => some (r4.1, r4.2)) else (f_X5_drawOne M o).bind (fun r6 => some (r6.1, r6.2))))
set_option maxHeartbeats 4000000 in
theorem w_X5_draw {K : am_K} {d : Nat} {post : Option am_V → am_M → Prop} {M : am_M} {o : Nat} {y : Int32 × am_M} (h : f_X5_draw M o = some y) (hp : post (some (.inl y.1)) y.2) : am_W K (d + 3) m_X5_draw 0 [(0, .inr (.inr (5, o, 0)))] [] M post := by
  unfold f_X5_draw at h
  refine am_aload_n dX5_draw_0 rfl ?_
  refine am_getI dX5_draw_1 fl_RX5_137 sh_5 rfl hk_5 ?_
  refine am_aload_n dX5_draw_4 rfl ?_
  obtain ⟨r2, c1, h⟩ := am_bnd h
  refine am_callVi (as := []) dX5_draw_5 cv_RX5_140 cb_X5_all sh_5 rfl hk_5 rfl rfl (Nat.le_of_ble_eq_true rfl) (c_X5_all c1) ?_
  refine am_icmp_ge 18 dX5_draw_8 rfl (fun b7 => ?_) (fun b7 => ?_)
  · replace h := am_ifT b7 h
    refine am_aload_n dX5_draw_18 rfl ?_
    refine am_bipush dX5_draw_19 bp_m5 ?_
    obtain ⟨r4, c3, h⟩ := am_bnd h
    refine am_callVi (as := [.inl (-5 : Int32)]) dX5_draw_21 cv_RX5_103 cb_X5_refuse sh_5 rfl hk_5 rfl rfl (Nat.le_of_ble_eq_true rfl) (c_X5_refuse c3) ?_
    obtain rfl := Option.some.inj h
    exact am_ireturn dX5_draw_24 rfl rfl hp
  · replace h := am_ifF b7 h
    refine am_aload_n dX5_draw_11 rfl ?_
    obtain ⟨r6, c5, h⟩ := am_bnd h
    refine am_callVi (as := []) dX5_draw_12 cv_RX5_364 cb_X5_drawOne sh_5 rfl hk_5 rfl rfl (Nat.le_of_ble_eq_true rfl) (c_X5_drawOne c5) ?_
    refine am_goto 24 dX5_draw_15 rfl ?_
    obtain rfl := Option.some.inj h
    exact am_ireturn dX5_draw_24 rfl rfl hp
theorem c_X5_draw {K : am_K} {d : Nat} {M : am_M} {o : Nat} {y : Int32 × am_M} (h : f_X5_draw M o = some y) : am_Met K (d + 3) m_X5_draw [.inr (.inr (5, o, 0))] M (fun q N => q = some (.inl y.1) ∧ N = y.2) :=
  am_Met_of cb_X5_draw (Nat.le_of_ble_eq_true rfl) (w_X5_draw h ⟨rfl, rfl⟩)
def l_X5_evening_0 (o0a : Nat) : Nat → am_M → Option (am_M)
  | 0, _ => none
  | n + 1, M => (f_X5_all M o0a).bind (fun r9 => (if r9 ≤ (M.1 5 o0a 0 16) then some M else (f_X5_drawOne M o0a).bind (fun r11 => l_X5_evening_0 o0a n r11.2)))
set_option maxHeartbeats 4000000 in
theorem wl_X5_evening_0 {K : am_K} {d : Nat} {post : Option am_V → am_M → Prop} {o0a : Nat} : ∀ (n : Nat) (M : am_M) (x : am_M), l_X5_evening_0 o0a n M = some x → am_W K (d + 3) m_X5_evening 19 [(0, .inr (.inr (5, o0a, 0)))] [] x post → am_W K (d + 3) m_X5_evening 0 [(0, .inr (.inr (5, o0a, 0)))] [] M post := by
  intro n
  induction n with
  | zero => intro M x h KX; cases h
  | succ n ih =>
    intro M x h KX
    rw [l_X5_evening_0] at h
    refine am_aload_n dX5_evening_0 rfl ?_
    refine am_getI dX5_evening_1 fl_RX5_137 sh_5 rfl hk_5 ?_
    refine am_aload_n dX5_evening_4 rfl ?_
    obtain ⟨r9, c8, h⟩ := am_bnd h
    refine am_callVi (as := []) dX5_evening_5 cv_RX5_140 cb_X5_all sh_5 rfl hk_5 rfl rfl (Nat.le_of_ble_eq_true rfl) (c_X5_all c8) ?_
    refine am_icmp_ge 19 dX5_evening_8 rfl (fun b12 => ?_) (fun b12 => ?_)
    · replace h := am_ifT b12 h
      obtain rfl := Option.some.inj h
      exact am_drop [0] rfl KX
    · replace h := am_ifF b12 h
      refine am_aload_n dX5_evening_11 rfl ?_
      obtain ⟨r11, c10, h⟩ := am_bnd h
      refine am_callVi (as := []) dX5_evening_12 cv_RX5_364 cb_X5_drawOne sh_5 rfl hk_5 rfl rfl (Nat.le_of_ble_eq_true rfl) (c_X5_drawOne c10) ?_
      refine am_pop dX5_evening_15 rfl ?_
      refine am_goto 0 dX5_evening_16 rfl ?_
      exact am_drop [0] rfl (ih _ _ h KX)
def l_X5_evening_23 (M : am_M) (o0a : Nat) : Nat → Int32 → Int32 → Option (Int32)
  | 0, _, _ => none
  | n + 1, a1, a2 => (if (M.1 5 o0a 0 16) < a2 then some a1 else (f_X5_readA M o0a a2).bind (fun r18 => ((if ((2 : Int32) * r18) ≤ a2 then some (0 : Int32) else some (1 : Int32)) : Option (Int32)).bind (fun z19 => am_let (a1 + z19) (fun v23 => am_let (a2 + (1 : Int32)) (fun v24 => l_X5_evening_23 M o0a n v23 v24)))))
set_option maxHeartbeats 4000000 in
theorem wl_X5_evening_23 {K : am_K} {d : Nat} {post : Option am_V → am_M → Prop} {M : am_M} {o0a : Nat} : ∀ (n : Nat) (a1 : Int32) (a2 : Int32) (x : Int32), l_X5_evening_23 M o0a n a1 a2 = some x → am_W K (d + 3) m_X5_evening 56 [(1, .inl x)] [] M post → am_W K (d + 3) m_X5_evening 23 [(0, .inr (.inr (5, o0a, 0))), (1, .inl a1), (2, .inl a2)] [] M post := by
  intro n
  induction n with
  | zero => intro a1 a2 x h KX; cases h
  | succ n ih =>
    intro a1 a2 x h KX
    rw [l_X5_evening_23] at h
    refine am_iload_n dX5_evening_23 rfl ?_
    refine am_aload_n dX5_evening_24 rfl ?_
    refine am_getI dX5_evening_25 fl_RX5_137 sh_5 rfl hk_5 ?_
    refine am_icmp_gt 56 dX5_evening_28 rfl (fun b25 => ?_) (fun b25 => ?_)
    · replace h := am_ifT b25 h
      obtain rfl := Option.some.inj h
      exact am_drop [1] rfl KX
    · replace h := am_ifF b25 h
      refine am_iload_n dX5_evening_31 rfl ?_
      refine am_iconst dX5_evening_32 ic_2 ?_
      refine am_aload_n dX5_evening_33 rfl ?_
      refine am_iload_n dX5_evening_34 rfl ?_
      obtain ⟨r18, c17, h⟩ := am_bnd h
      refine am_callVi (as := [.inl a2]) dX5_evening_35 cv_RX5_257 cb_X5_readA sh_5 rfl hk_5 rfl rfl (Nat.le_of_ble_eq_true rfl) (c_X5_readA c17) ?_
      refine am_imul dX5_evening_38 ?_
      refine am_iload_n dX5_evening_39 rfl ?_
      obtain ⟨z19, h20, h⟩ := am_bnd h
      have KK21 : am_W K (d + 3) m_X5_evening 48 [(0, .inr (.inr (5, o0a, 0))), (2, .inl a2)] [.inl z19, .inl a1] M post := by
        refine am_iadd dX5_evening_48 ?_
        obtain ⟨v23, ev23, h⟩ := am_letE h
        refine am_topI ev23 ?_
        refine am_istore_n (ls' := [(0, .inr (.inr (5, o0a, 0))), (1, .inl v23), (2, .inl a2)]) dX5_evening_49 (Nat.le_of_ble_eq_true rfl) rfl ?_
        obtain ⟨v24, ev24, h⟩ := am_letE h
        refine am_iinc (ls' := [(0, .inr (.inr (5, o0a, 0))), (1, .inl v23), (2, .inl v24)]) dX5_evening_50 rfl ((congrArg (fun z => a2 + z) ic_1).trans ev24.symm) (Nat.le_of_ble_eq_true rfl) rfl ?_
        refine am_goto 23 dX5_evening_53 rfl ?_
        exact am_drop [0, 1, 2] rfl (ih _ _ _ h KX)
      clear h
      refine am_icmp_le 47 dX5_evening_40 rfl (fun b22 => ?_) (fun b22 => ?_)
      · replace h20 := am_ifT b22 h20
        refine am_iconst dX5_evening_47 ic_0 ?_
        obtain rfl := Option.some.inj h20
        exact am_drop [0, 2] rfl KK21
      · replace h20 := am_ifF b22 h20
        refine am_iconst dX5_evening_43 ic_1 ?_
        refine am_goto 48 dX5_evening_44 rfl ?_
        obtain rfl := Option.some.inj h20
        exact am_drop [0, 2] rfl KK21
def f_X5_evening (M : am_M) (o : Nat) : Option (Int32 × am_M) :=
  (f_X5_all M o).bind (fun r2 => ((if r2 ≤ (M.1 5 o 0 16) then some M else (f_X5_drawOne M o).bind (fun r7 => (l_X5_evening_0 o 1000 r7.2).bind (fun z13 => some z13))) : Option (am_M)).bind (fun z3 => (l_X5_evening_23 z3 o 1000 (0 : Int32) (1 : Int32)).bind (fun z26 => some (z26, z3))))
set_option maxHeartbeats 4000000 in
theorem w_X5_evening {K : am_K} {d : Nat} {post : Option am_V → am_M → Prop} {M : am_M} {o : Nat} {y : Int32 × am_M} (h : f_X5_evening M o = some y) (hp : post (some (.inl y.1)) y.2) : am_W K (d + 3) m_X5_evening 0 [(0, .inr (.inr (5, o, 0)))] [] M post := by
  unfold f_X5_evening at h
  refine am_aload_n dX5_evening_0 rfl ?_
  refine am_getI dX5_evening_1 fl_RX5_137 sh_5 rfl hk_5 ?_
  refine am_aload_n dX5_evening_4 rfl ?_
  obtain ⟨r2, c1, h⟩ := am_bnd h
  refine am_callVi (as := []) dX5_evening_5 cv_RX5_140 cb_X5_all sh_5 rfl hk_5 rfl rfl (Nat.le_of_ble_eq_true rfl) (c_X5_all c1) ?_
  obtain ⟨z3, h4, h⟩ := am_bnd h
  have KK5 : am_W K (d + 3) m_X5_evening 19 [(0, .inr (.inr (5, o, 0)))] [] z3 post := by
    refine am_iconst dX5_evening_19 ic_0 ?_
    refine am_istore_n (ls' := [(0, .inr (.inr (5, o, 0))), (1, .inl (0 : Int32))]) dX5_evening_20 (Nat.le_of_ble_eq_true rfl) rfl ?_
    refine am_iconst dX5_evening_21 ic_1 ?_
    refine am_istore_n (ls' := [(0, .inr (.inr (5, o, 0))), (1, .inl (0 : Int32)), (2, .inl (1 : Int32))]) dX5_evening_22 (Nat.le_of_ble_eq_true rfl) rfl ?_
    obtain ⟨z26, h27, h⟩ := am_bnd h
    have KK28 : am_W K (d + 3) m_X5_evening 56 [(1, .inl z26)] [] z3 post := by
      refine am_iload_n dX5_evening_56 rfl ?_
      obtain rfl := Option.some.inj h
      exact am_ireturn dX5_evening_57 rfl rfl hp
    exact am_drop [0, 1, 2] rfl (wl_X5_evening_23 _ _ _ _ h27 KK28)
  clear h
  refine am_icmp_ge 19 dX5_evening_8 rfl (fun b16 => ?_) (fun b16 => ?_)
  · replace h4 := am_ifT b16 h4
    obtain rfl := Option.some.inj h4
    exact am_drop [0] rfl KK5
  · replace h4 := am_ifF b16 h4
    refine am_aload_n dX5_evening_11 rfl ?_
    obtain ⟨r7, c6, h4⟩ := am_bnd h4
    refine am_callVi (as := []) dX5_evening_12 cv_RX5_364 cb_X5_drawOne sh_5 rfl hk_5 rfl rfl (Nat.le_of_ble_eq_true rfl) (c_X5_drawOne c6) ?_
    refine am_pop dX5_evening_15 rfl ?_
    refine am_goto 0 dX5_evening_16 rfl ?_
    obtain ⟨z13, h14, h4⟩ := am_bnd h4
    have KK15 : am_W K (d + 3) m_X5_evening 19 [(0, .inr (.inr (5, o, 0)))] [] z13 post := by
      obtain rfl := Option.some.inj h4
      exact am_drop [0] rfl KK5
    exact am_drop [0] rfl (wl_X5_evening_0 _ _ _ h14 KK15)
theorem c_X5_evening {K : am_K} {d : Nat} {M : am_M} {o : Nat} {y : Int32 × am_M} (h : f_X5_evening M o = some y) : am_Met K (d + 3) m_X5_evening [.inr (.inr (5, o, 0))] M (fun q N => q = some (.inl y.1) ∧ N = y.2) :=
  am_Met_of cb_X5_evening (Nat.le_of_ble_eq_true rfl) (w_X5_evening h ⟨rfl, rfl⟩)
def f_X5_seed (M : am_M) (o : Nat) (x1 : Int32) : Option (Int32 × am_M) :=
  am_let (M.1 5 o 0 18) (fun v1 => am_let (am_si M 5 o 0 18 x1) (fun M2 => some (v1, M2)))
set_option maxHeartbeats 4000000 in
theorem w_X5_seed {K : am_K} {d : Nat} {post : Option am_V → am_M → Prop} {M : am_M} {o : Nat} {x1 : Int32} {y : Int32 × am_M} (h : f_X5_seed M o x1 = some y) (hp : post (some (.inl y.1)) y.2) : am_W K d m_X5_seed 0 [(0, .inr (.inr (5, o, 0))), (1, .inl x1)] [] M post := by
  unfold f_X5_seed at h
  refine am_aload_n dX5_seed_0 rfl ?_
  refine am_getI dX5_seed_1 fl_RX5_57 sh_5 rfl hk_5 ?_
  obtain ⟨v1, ev1, h⟩ := am_letE h
  refine am_topI ev1 ?_
  refine am_istore_n (ls' := [(0, .inr (.inr (5, o, 0))), (1, .inl x1), (2, .inl v1)]) dX5_seed_4 (Nat.le_of_ble_eq_true rfl) rfl ?_
  refine am_aload_n dX5_seed_5 rfl ?_
  refine am_iload_n dX5_seed_6 rfl ?_
  obtain ⟨M2, eM2, h⟩ := am_letE h
  refine am_putI dX5_seed_7 fl_RX5_57 fp_X5_18 sh_5 rfl rfl rfl hk_5 ?_
  refine am_mem eM2 ?_
  refine am_iload_n dX5_seed_10 rfl ?_
  obtain rfl := Option.some.inj h
  exact am_ireturn dX5_seed_11 rfl rfl hp
theorem c_X5_seed {K : am_K} {d : Nat} {M : am_M} {o : Nat} {x1 : Int32} {y : Int32 × am_M} (h : f_X5_seed M o x1 = some y) : am_Met K d m_X5_seed [.inr (.inr (5, o, 0)), .inl x1] M (fun q N => q = some (.inl y.1) ∧ N = y.2) :=
  am_Met_of cb_X5_seed (Nat.le_of_ble_eq_true rfl) (w_X5_seed h ⟨rfl, rfl⟩)
def l_X5_over_2 (k0 : Nat) (p0 : Nat) (q0 : Nat) (n0 : Nat) (k1 : Nat) (p1 : Nat) (q1 : Nat) (n1 : Nat) : Nat → Int32 → am_M → Option (am_M)
  | 0, _, _ => none
  | n + 1, a2, M => (if (Int32.ofNat n0) ≤ a2 then some M else if am_inb a2 n0 = true then if am_inb a2 n1 = true then am_let (am_si M k1 p1 q1 a2.toNatClampNeg (M.1 k0 p0 q0 a2.toNatClampNeg)) (fun M3 => am_let (a2 + (1 : Int32)) (fun v4 => l_X5_over_2 k0 p0 q0 n0 k1 p1 q1 n1 n v4 M3)) else none else none)
set_option maxHeartbeats 4000000 in
theorem wl_X5_over_2 {K : am_K} {d : Nat} {post : Option am_V → am_M → Prop} {k0 : Nat} {p0 : Nat} {q0 : Nat} {n0 : Nat} {k1 : Nat} {p1 : Nat} {q1 : Nat} {n1 : Nat} (hs0 : am_sh k0 = .inr (.inl (0, n0))) (hk0 : k0 < 9000) (hs1 : am_sh k1 = .inr (.inl (0, n1))) (hk1 : k1 < 9000) : ∀ (n : Nat) (a2 : Int32) (M : am_M) (x : am_M), l_X5_over_2 k0 p0 q0 n0 k1 p1 q1 n1 n a2 M = some x → am_W K d m_X5_over 20 [] [] x post → am_W K d m_X5_over 2 [(0, .inr (.inr (k0, p0, q0))), (1, .inr (.inr (k1, p1, q1))), (2, .inl a2)] [] M post := by
  intro n
  induction n with
  | zero => intro a2 M x h KX; cases h
  | succ n ih =>
    intro a2 M x h KX
    rw [l_X5_over_2] at h
    refine am_iload_n dX5_over_2 rfl ?_
    refine am_aload_n dX5_over_3 rfl ?_
    refine am_alen dX5_over_4 hs0 (by decide) hk0 rfl ?_
    refine am_icmp_ge 20 dX5_over_5 rfl (fun b5 => ?_) (fun b5 => ?_)
    · replace h := am_ifT b5 h
      obtain rfl := Option.some.inj h
      exact am_drop [] rfl KX
    · replace h := am_ifF b5 h
      refine am_aload_n dX5_over_8 rfl ?_
      refine am_iload_n dX5_over_9 rfl ?_
      refine am_aload_n dX5_over_10 rfl ?_
      refine am_iload_n dX5_over_11 rfl ?_
      obtain ⟨g1, h⟩ := am_grd h
      refine am_iaload dX5_over_12 hs0 hk0 (am_inbE g1) ?_
      obtain ⟨g2, h⟩ := am_grd h
      obtain ⟨M3, eM3, h⟩ := am_letE h
      refine am_iastore dX5_over_13 hs1 hk1 (am_inbE g2) ?_
      refine am_mem eM3 ?_
      obtain ⟨v4, ev4, h⟩ := am_letE h
      refine am_iinc (ls' := [(0, .inr (.inr (k0, p0, q0))), (1, .inr (.inr (k1, p1, q1))), (2, .inl v4)]) dX5_over_14 rfl ((congrArg (fun z => a2 + z) ic_1).trans ev4.symm) (Nat.le_of_ble_eq_true rfl) rfl ?_
      refine am_goto 2 dX5_over_17 rfl ?_
      exact am_drop [0, 1, 2] rfl (ih _ _ _ h KX)
def f_X5_over (M : am_M) (k0 : Nat) (p0 : Nat) (q0 : Nat) (n0 : Nat) (k1 : Nat) (p1 : Nat) (q1 : Nat) (n1 : Nat) : Option (am_M) :=
  (l_X5_over_2 k0 p0 q0 n0 k1 p1 q1 n1 1000 (0 : Int32) M).bind (fun z6 => some z6)
set_option maxHeartbeats 4000000 in
theorem w_X5_over {K : am_K} {d : Nat} {post : Option am_V → am_M → Prop} {M : am_M} {k0 : Nat} {p0 : Nat} {q0 : Nat} {n0 : Nat} {k1 : Nat} {p1 : Nat} {q1 : Nat} {n1 : Nat} (hs0 : am_sh k0 = .inr (.inl (0, n0))) (hk0 : k0 < 9000) (hs1 : am_sh k1 = .inr (.inl (0, n1))) (hk1 : k1 < 9000) {y : am_M} (h : f_X5_over M k0 p0 q0 n0 k1 p1 q1 n1 = some y) (hp : post none y) : am_W K d m_X5_over 0 [(0, .inr (.inr (k0, p0, q0))), (1, .inr (.inr (k1, p1, q1)))] [] M post := by
  unfold f_X5_over at h
  refine am_iconst dX5_over_0 ic_0 ?_
  refine am_istore_n (ls' := [(0, .inr (.inr (k0, p0, q0))), (1, .inr (.inr (k1, p1, q1))), (2, .inl (0 : Int32))]) dX5_over_1 (Nat.le_of_ble_eq_true rfl) rfl ?_
  obtain ⟨z6, h7, h⟩ := am_bnd h
  have KK8 : am_W K d m_X5_over 20 [] [] z6 post := by
    obtain rfl := Option.some.inj h
    exact am_return dX5_over_20 rfl hp
  exact am_drop [0, 1, 2] rfl (wl_X5_over_2 hs0 hk0 hs1 hk1 _ _ _ _ h7 KK8)
theorem c_X5_over {K : am_K} {d : Nat} {M : am_M} {k0 : Nat} {p0 : Nat} {q0 : Nat} {n0 : Nat} {k1 : Nat} {p1 : Nat} {q1 : Nat} {n1 : Nat} (hs0 : am_sh k0 = .inr (.inl (0, n0))) (hk0 : k0 < 9000) (hs1 : am_sh k1 = .inr (.inl (0, n1))) (hk1 : k1 < 9000) {y : am_M} (h : f_X5_over M k0 p0 q0 n0 k1 p1 q1 n1 = some y) : am_Met K d m_X5_over [.inr (.inr (k0, p0, q0)), .inr (.inr (k1, p1, q1))] M (fun q N => q = none ∧ N = y) :=
  am_Met_of cb_X5_over (Nat.le_of_ble_eq_true rfl) (w_X5_over hs0 hk0 hs1 hk1 h ⟨rfl, rfl⟩)
def l_X5_takeFrom_51 (o0a : Nat) (o1a : Nat) : Nat → Int32 → am_M → Option (am_M)
  | 0, _, _ => none
  | n + 1, a2, M => (if (4 : Int32) ≤ a2 then some M else if am_inb a2 4 = true then if am_inb a2 4 = true then (f_X5_over M 715 o1a a2.toNatClampNeg 3 715 o0a a2.toNatClampNeg 3).bind (fun r12 => am_let (a2 + (1 : Int32)) (fun v13 => l_X5_takeFrom_51 o0a o1a n v13 r12)) else none else none)
set_option maxHeartbeats 4000000 in
theorem wl_X5_takeFrom_51 {K : am_K} {d : Nat} {post : Option am_V → am_M → Prop} {o0a : Nat} {o1a : Nat} : ∀ (n : Nat) (a2 : Int32) (M : am_M) (x : am_M), l_X5_takeFrom_51 o0a o1a n a2 M = some x → am_W K (d + 1) m_X5_takeFrom 77 [(0, .inr (.inr (5, o0a, 0))), (1, .inr (.inr (5, o1a, 0)))] [] x post → am_W K (d + 1) m_X5_takeFrom 51 [(0, .inr (.inr (5, o0a, 0))), (1, .inr (.inr (5, o1a, 0))), (2, .inl a2)] [] M post := by
  intro n
  induction n with
  | zero => intro a2 M x h KX; cases h
  | succ n ih =>
    intro a2 M x h KX
    rw [l_X5_takeFrom_51] at h
    refine am_iload_n dX5_takeFrom_51 rfl ?_
    refine am_iconst dX5_takeFrom_52 ic_4 ?_
    refine am_icmp_ge 77 dX5_takeFrom_53 rfl (fun b14 => ?_) (fun b14 => ?_)
    · replace h := am_ifT b14 h
      obtain rfl := Option.some.inj h
      exact am_drop [0, 1] rfl KX
    · replace h := am_ifF b14 h
      refine am_aload_n dX5_takeFrom_56 rfl ?_
      refine am_getR (o' := o1a) dX5_takeFrom_57 fl_RX5_51 sh_5 rfl rfl hk_5 ?_
      refine am_iload_n dX5_takeFrom_60 rfl ?_
      obtain ⟨g9, h⟩ := am_grd h
      refine am_aaload dX5_takeFrom_61 sh_615 rfl rfl hk_615 (am_inbE g9) ?_
      refine am_top (w := .inr (.inr (715, o1a, a2.toNatClampNeg))) rfl ?_
      refine am_aload_n dX5_takeFrom_62 rfl ?_
      refine am_getR (o' := o0a) dX5_takeFrom_63 fl_RX5_51 sh_5 rfl rfl hk_5 ?_
      refine am_iload_n dX5_takeFrom_66 rfl ?_
      obtain ⟨g10, h⟩ := am_grd h
      refine am_aaload dX5_takeFrom_67 sh_615 rfl rfl hk_615 (am_inbE g10) ?_
      refine am_top (w := .inr (.inr (715, o0a, a2.toNatClampNeg))) rfl ?_
      obtain ⟨r12, c11, h⟩ := am_bnd h
      refine am_callSv (as := [.inr (.inr (715, o1a, a2.toNatClampNeg)), .inr (.inr (715, o0a, a2.toNatClampNeg))]) dX5_takeFrom_68 cs_RX5_372 cb_X5_over rfl rfl (Nat.le_of_ble_eq_true rfl) (c_X5_over sh_715 hk_715 sh_715 hk_715 c11) ?_
      obtain ⟨v13, ev13, h⟩ := am_letE h
      refine am_iinc (ls' := [(0, .inr (.inr (5, o0a, 0))), (1, .inr (.inr (5, o1a, 0))), (2, .inl v13)]) dX5_takeFrom_71 rfl ((congrArg (fun z => a2 + z) ic_1).trans ev13.symm) (Nat.le_of_ble_eq_true rfl) rfl ?_
      refine am_goto 51 dX5_takeFrom_74 rfl ?_
      exact am_drop [0, 1, 2] rfl (ih _ _ _ h KX)
def f_X5_takeFrom (M : am_M) (o : Nat) (o1 : Nat) : Option (am_M) :=
  am_let (am_si M 5 o 0 10 (M.1 5 o1 0 10)) (fun M1 => (f_X5_over M1 611 o1 0 4 611 o 0 4).bind (fun r3 => (f_X5_over r3 612 o1 0 4 612 o 0 4).bind (fun r5 => (f_X5_over r5 613 o1 0 4 613 o 0 4).bind (fun r7 => am_let (am_si r7 5 o 0 14 (r7.1 5 o1 0 14)) (fun M8 => (l_X5_takeFrom_51 o o1 1000 (0 : Int32) M8).bind (fun z15 => am_let (am_si z15 5 o 0 16 (z15.1 5 o1 0 16)) (fun M18 => (f_X5_over M18 617 o1 0 24 617 o 0 24).bind (fun r20 => am_let (am_si r20 5 o 0 18 (r20.1 5 o1 0 18)) (fun M21 => some M21)))))))))
set_option maxHeartbeats 4000000 in
theorem w_X5_takeFrom {K : am_K} {d : Nat} {post : Option am_V → am_M → Prop} {M : am_M} {o : Nat} {o1 : Nat} {y : am_M} (h : f_X5_takeFrom M o o1 = some y) (hp : post none y) : am_W K (d + 1) m_X5_takeFrom 0 [(0, .inr (.inr (5, o, 0))), (1, .inr (.inr (5, o1, 0)))] [] M post := by
  unfold f_X5_takeFrom at h
  refine am_aload_n dX5_takeFrom_0 rfl ?_
  refine am_aload_n dX5_takeFrom_1 rfl ?_
  refine am_getI dX5_takeFrom_2 fl_RX5_130 sh_5 rfl hk_5 ?_
  obtain ⟨M1, eM1, h⟩ := am_letE h
  refine am_putI dX5_takeFrom_5 fl_RX5_130 fp_X5_10 sh_5 rfl rfl rfl hk_5 ?_
  refine am_mem eM1 ?_
  refine am_aload_n dX5_takeFrom_8 rfl ?_
  refine am_getR (o' := o1) dX5_takeFrom_9 fl_RX5_40 sh_5 rfl rfl hk_5 ?_
  refine am_aload_n dX5_takeFrom_12 rfl ?_
  refine am_getR (o' := o) dX5_takeFrom_13 fl_RX5_40 sh_5 rfl rfl hk_5 ?_
  obtain ⟨r3, c2, h⟩ := am_bnd h
  refine am_callSv (as := [.inr (.inr (611, o1, 0)), .inr (.inr (611, o, 0))]) dX5_takeFrom_16 cs_RX5_372 cb_X5_over rfl rfl (Nat.le_of_ble_eq_true rfl) (c_X5_over sh_611 hk_611 sh_611 hk_611 c2) ?_
  refine am_aload_n dX5_takeFrom_19 rfl ?_
  refine am_getR (o' := o1) dX5_takeFrom_20 fl_RX5_43 sh_5 rfl rfl hk_5 ?_
  refine am_aload_n dX5_takeFrom_23 rfl ?_
  refine am_getR (o' := o) dX5_takeFrom_24 fl_RX5_43 sh_5 rfl rfl hk_5 ?_
  obtain ⟨r5, c4, h⟩ := am_bnd h
  refine am_callSv (as := [.inr (.inr (612, o1, 0)), .inr (.inr (612, o, 0))]) dX5_takeFrom_27 cs_RX5_372 cb_X5_over rfl rfl (Nat.le_of_ble_eq_true rfl) (c_X5_over sh_612 hk_612 sh_612 hk_612 c4) ?_
  refine am_aload_n dX5_takeFrom_30 rfl ?_
  refine am_getR (o' := o1) dX5_takeFrom_31 fl_RX5_46 sh_5 rfl rfl hk_5 ?_
  refine am_aload_n dX5_takeFrom_34 rfl ?_
  refine am_getR (o' := o) dX5_takeFrom_35 fl_RX5_46 sh_5 rfl rfl hk_5 ?_
  obtain ⟨r7, c6, h⟩ := am_bnd h
  refine am_callSv (as := [.inr (.inr (613, o1, 0)), .inr (.inr (613, o, 0))]) dX5_takeFrom_38 cs_RX5_372 cb_X5_over rfl rfl (Nat.le_of_ble_eq_true rfl) (c_X5_over sh_613 hk_613 sh_613 hk_613 c6) ?_
  refine am_aload_n dX5_takeFrom_41 rfl ?_
  refine am_aload_n dX5_takeFrom_42 rfl ?_
  refine am_getI dX5_takeFrom_43 fl_RX5_151 sh_5 rfl hk_5 ?_
  obtain ⟨M8, eM8, h⟩ := am_letE h
  refine am_putI dX5_takeFrom_46 fl_RX5_151 fp_X5_14 sh_5 rfl rfl rfl hk_5 ?_
  refine am_mem eM8 ?_
  refine am_iconst dX5_takeFrom_49 ic_0 ?_
  refine am_istore_n (ls' := [(0, .inr (.inr (5, o, 0))), (1, .inr (.inr (5, o1, 0))), (2, .inl (0 : Int32))]) dX5_takeFrom_50 (Nat.le_of_ble_eq_true rfl) rfl ?_
  obtain ⟨z15, h16, h⟩ := am_bnd h
  have KK17 : am_W K (d + 1) m_X5_takeFrom 77 [(0, .inr (.inr (5, o, 0))), (1, .inr (.inr (5, o1, 0)))] [] z15 post := by
    refine am_aload_n dX5_takeFrom_77 rfl ?_
    refine am_aload_n dX5_takeFrom_78 rfl ?_
    refine am_getI dX5_takeFrom_79 fl_RX5_137 sh_5 rfl hk_5 ?_
    obtain ⟨M18, eM18, h⟩ := am_letE h
    refine am_putI dX5_takeFrom_82 fl_RX5_137 fp_X5_16 sh_5 rfl rfl rfl hk_5 ?_
    refine am_mem eM18 ?_
    refine am_aload_n dX5_takeFrom_85 rfl ?_
    refine am_getR (o' := o1) dX5_takeFrom_86 fl_RX5_54 sh_5 rfl rfl hk_5 ?_
    refine am_aload_n dX5_takeFrom_89 rfl ?_
    refine am_getR (o' := o) dX5_takeFrom_90 fl_RX5_54 sh_5 rfl rfl hk_5 ?_
    obtain ⟨r20, c19, h⟩ := am_bnd h
    refine am_callSv (as := [.inr (.inr (617, o1, 0)), .inr (.inr (617, o, 0))]) dX5_takeFrom_93 cs_RX5_372 cb_X5_over rfl rfl (Nat.le_of_ble_eq_true rfl) (c_X5_over sh_617 hk_617 sh_617 hk_617 c19) ?_
    refine am_aload_n dX5_takeFrom_96 rfl ?_
    refine am_aload_n dX5_takeFrom_97 rfl ?_
    refine am_getI dX5_takeFrom_98 fl_RX5_57 sh_5 rfl hk_5 ?_
    obtain ⟨M21, eM21, h⟩ := am_letE h
    refine am_putI dX5_takeFrom_101 fl_RX5_57 fp_X5_18 sh_5 rfl rfl rfl hk_5 ?_
    refine am_mem eM21 ?_
    obtain rfl := Option.some.inj h
    exact am_return dX5_takeFrom_104 rfl hp
  exact am_drop [0, 1, 2] rfl (wl_X5_takeFrom_51 _ _ _ _ h16 KK17)
theorem c_X5_takeFrom {K : am_K} {d : Nat} {M : am_M} {o : Nat} {o1 : Nat} {y : am_M} (h : f_X5_takeFrom M o o1 = some y) : am_Met K (d + 1) m_X5_takeFrom [.inr (.inr (5, o, 0)), .inr (.inr (5, o1, 0))] M (fun q N => q = none ∧ N = y) :=
  am_Met_of cb_X5_takeFrom (Nat.le_of_ble_eq_true rfl) (w_X5_takeFrom h ⟨rfl, rfl⟩)
def l_X5_status_116 (M : am_M) (o0a : Nat) : Nat → Int32 → Int32 → Option (Int32)
  | 0, _, _ => none
  | n + 1, a2, a3 => (if (8 : Int32) ≤ a3 then some a2 else if am_inb a3 8 = true then ((if (M.1 600 o0a 0 a3.toNatClampNeg) = 0 then some (0 : Int32) else some (1 : Int32)) : Option (Int32)).bind (fun z22 => am_let (a2 + z22) (fun v26 => am_let (a3 + (1 : Int32)) (fun v27 => l_X5_status_116 M o0a n v26 v27))) else none)
set_option maxHeartbeats 4000000 in
theorem wl_X5_status_116 {K : am_K} {d : Nat} {post : Option am_V → am_M → Prop} {M : am_M} {o0a : Nat} : ∀ (n : Nat) (a2 : Int32) (a3 : Int32) (x : Int32), l_X5_status_116 M o0a n a2 a3 = some x → am_W K (d + 2) m_X5_status 145 [(2, .inl x)] [] M post → am_W K (d + 2) m_X5_status 116 [(0, .inr (.inr (5, o0a, 0))), (2, .inl a2), (3, .inl a3)] [] M post := by
  intro n
  induction n with
  | zero => intro a2 a3 x h KX; cases h
  | succ n ih =>
    intro a2 a3 x h KX
    rw [l_X5_status_116] at h
    refine am_iload_n dX5_status_116 rfl ?_
    refine am_bipush dX5_status_117 bp_8 ?_
    refine am_icmp_ge 145 dX5_status_119 rfl (fun b28 => ?_) (fun b28 => ?_)
    · replace h := am_ifT b28 h
      obtain rfl := Option.some.inj h
      exact am_drop [2] rfl KX
    · replace h := am_ifF b28 h
      refine am_iload_n dX5_status_122 rfl ?_
      refine am_aload_n dX5_status_123 rfl ?_
      refine am_getR (o' := o0a) dX5_status_124 fl_RX5_7 sh_5 rfl rfl hk_5 ?_
      refine am_iload_n dX5_status_127 rfl ?_
      obtain ⟨g21, h⟩ := am_grd h
      refine am_iaload dX5_status_128 sh_600 hk_600 (am_inbE g21) ?_
      obtain ⟨z22, h23, h⟩ := am_bnd h
      have KK24 : am_W K (d + 2) m_X5_status 137 [(0, .inr (.inr (5, o0a, 0))), (3, .inl a3)] [.inl z22, .inl a2] M post := by
        refine am_iadd dX5_status_137 ?_
        obtain ⟨v26, ev26, h⟩ := am_letE h
        refine am_topI ev26 ?_
        refine am_istore_n (ls' := [(0, .inr (.inr (5, o0a, 0))), (2, .inl v26), (3, .inl a3)]) dX5_status_138 (Nat.le_of_ble_eq_true rfl) rfl ?_
        obtain ⟨v27, ev27, h⟩ := am_letE h
        refine am_iinc (ls' := [(0, .inr (.inr (5, o0a, 0))), (2, .inl v26), (3, .inl v27)]) dX5_status_139 rfl ((congrArg (fun z => a3 + z) ic_1).trans ev27.symm) (Nat.le_of_ble_eq_true rfl) rfl ?_
        refine am_goto 116 dX5_status_142 rfl ?_
        exact am_drop [0, 2, 3] rfl (ih _ _ _ h KX)
      clear h
      refine am_if_eq 136 dX5_status_129 rfl (fun b25 => ?_) (fun b25 => ?_)
      · replace h23 := am_ifT b25 h23
        refine am_iconst dX5_status_136 ic_0 ?_
        obtain rfl := Option.some.inj h23
        exact am_drop [0, 3] rfl KK24
      · replace h23 := am_ifF b25 h23
        refine am_iconst dX5_status_132 ic_1 ?_
        refine am_goto 137 dX5_status_133 rfl ?_
        obtain rfl := Option.some.inj h23
        exact am_drop [0, 3] rfl KK24
def f_X5_status (M : am_M) (o : Nat) (x1 : Int32) : Option (Int32) :=
  (if x1 = (0 : Int32) then some (M.1 5 o 0 10) else if x1 = (1 : Int32) then (f_X5_all M o).bind (fun r4 => some r4) else if x1 = (2 : Int32) then some (M.1 5 o 0 16) else if x1 = (3 : Int32) then some (M.1 5 o 0 14) else if x1 = (4 : Int32) then (f_X5_allA M o).bind (fun r9 => some r9) else if x1 = (5 : Int32) then (f_X5_all M o).bind (fun r12 => (f_X5_allA M o).bind (fun r14 => some (r12 - r14))) else if x1 = (6 : Int32) then (f_X5_readA M o (M.1 5 o 0 16)).bind (fun r17 => some r17) else if x1 = (7 : Int32) then some (M.1 5 o 0 8) else if x1 = (8 : Int32) then some (M.1 5 o 0 18) else if x1 = (9 : Int32) then (l_X5_status_116 M o 1000 (0 : Int32) (0 : Int32)).bind (fun z29 => some z29) else if x1 = (10 : Int32) then (f_X5_heapAt M o (M.1 5 o 0 16)).bind (fun r34 => some r34) else (f_X5_in M x1.toInt64 (12 : Int64) (16 : Int64)).bind (fun r36 => (if r36 = 0 then some (-1 : Int32) else if am_inb (x1 - (10 : Int32)) 8 = true then some (M.1 609 o 0 (x1 - (10 : Int32)).toNatClampNeg) else none)))
set_option maxHeartbeats 4000000 in
theorem w_X5_status {K : am_K} {d : Nat} {post : Option am_V → am_M → Prop} {M : am_M} {o : Nat} {x1 : Int32} {y : Int32} (h : f_X5_status M o x1 = some y) (hp : post (some (.inl y)) M) : am_W K (d + 2) m_X5_status 0 [(0, .inr (.inr (5, o, 0))), (1, .inl x1)] [] M post := by
  unfold f_X5_status at h
  refine am_iconst dX5_status_0 ic_0 ?_
  refine am_istore_n (ls' := [(0, .inr (.inr (5, o, 0))), (1, .inl x1), (2, .inl (0 : Int32))]) dX5_status_1 (Nat.le_of_ble_eq_true rfl) rfl ?_
  refine am_iload_n dX5_status_2 rfl ?_
  by_cases b1 : x1 = (0 : Int32)
  · replace h := am_ifT b1 h
    skip
    refine am_swIn 60 dX5_status_3 (by rw [b1]; decide) (by rw [b1]; decide) (by rw [b1]; rfl) rfl ?_
    refine am_aload_n dX5_status_60 rfl ?_
    refine am_getI dX5_status_61 fl_RX5_130 sh_5 rfl hk_5 ?_
    obtain rfl := Option.some.inj h
    exact am_ireturn dX5_status_64 rfl rfl hp
  replace h := am_ifF b1 h
  by_cases b2 : x1 = (1 : Int32)
  · replace h := am_ifT b2 h
    skip
    refine am_swIn 65 dX5_status_3 (by rw [b2]; decide) (by rw [b2]; decide) (by rw [b2]; rfl) rfl ?_
    refine am_aload_n dX5_status_65 rfl ?_
    obtain ⟨r4, c3, h⟩ := am_bnd h
    refine am_callVi (as := []) dX5_status_66 cv_RX5_140 cb_X5_all sh_5 rfl hk_5 rfl rfl (Nat.le_of_ble_eq_true rfl) (c_X5_all c3) ?_
    obtain rfl := Option.some.inj h
    exact am_ireturn dX5_status_69 rfl rfl hp
  replace h := am_ifF b2 h
  by_cases b5 : x1 = (2 : Int32)
  · replace h := am_ifT b5 h
    skip
    refine am_swIn 70 dX5_status_3 (by rw [b5]; decide) (by rw [b5]; decide) (by rw [b5]; rfl) rfl ?_
    refine am_aload_n dX5_status_70 rfl ?_
    refine am_getI dX5_status_71 fl_RX5_137 sh_5 rfl hk_5 ?_
    obtain rfl := Option.some.inj h
    exact am_ireturn dX5_status_74 rfl rfl hp
  replace h := am_ifF b5 h
  by_cases b6 : x1 = (3 : Int32)
  · replace h := am_ifT b6 h
    skip
    refine am_swIn 75 dX5_status_3 (by rw [b6]; decide) (by rw [b6]; decide) (by rw [b6]; rfl) rfl ?_
    refine am_aload_n dX5_status_75 rfl ?_
    refine am_getI dX5_status_76 fl_RX5_151 sh_5 rfl hk_5 ?_
    obtain rfl := Option.some.inj h
    exact am_ireturn dX5_status_79 rfl rfl hp
  replace h := am_ifF b6 h
  by_cases b7 : x1 = (4 : Int32)
  · replace h := am_ifT b7 h
    skip
    refine am_swIn 80 dX5_status_3 (by rw [b7]; decide) (by rw [b7]; decide) (by rw [b7]; rfl) rfl ?_
    refine am_aload_n dX5_status_80 rfl ?_
    obtain ⟨r9, c8, h⟩ := am_bnd h
    refine am_callVi (as := []) dX5_status_81 cv_RX5_133 cb_X5_allA sh_5 rfl hk_5 rfl rfl (Nat.le_of_ble_eq_true rfl) (c_X5_allA c8) ?_
    obtain rfl := Option.some.inj h
    exact am_ireturn dX5_status_84 rfl rfl hp
  replace h := am_ifF b7 h
  by_cases b10 : x1 = (5 : Int32)
  · replace h := am_ifT b10 h
    skip
    refine am_swIn 85 dX5_status_3 (by rw [b10]; decide) (by rw [b10]; decide) (by rw [b10]; rfl) rfl ?_
    refine am_aload_n dX5_status_85 rfl ?_
    obtain ⟨r12, c11, h⟩ := am_bnd h
    refine am_callVi (as := []) dX5_status_86 cv_RX5_140 cb_X5_all sh_5 rfl hk_5 rfl rfl (Nat.le_of_ble_eq_true rfl) (c_X5_all c11) ?_
    refine am_aload_n dX5_status_89 rfl ?_
    obtain ⟨r14, c13, h⟩ := am_bnd h
    refine am_callVi (as := []) dX5_status_90 cv_RX5_133 cb_X5_allA sh_5 rfl hk_5 rfl rfl (Nat.le_of_ble_eq_true rfl) (c_X5_allA c13) ?_
    refine am_isub dX5_status_93 ?_
    obtain rfl := Option.some.inj h
    exact am_ireturn dX5_status_94 rfl rfl hp
  replace h := am_ifF b10 h
  by_cases b15 : x1 = (6 : Int32)
  · replace h := am_ifT b15 h
    skip
    refine am_swIn 95 dX5_status_3 (by rw [b15]; decide) (by rw [b15]; decide) (by rw [b15]; rfl) rfl ?_
    refine am_aload_n dX5_status_95 rfl ?_
    refine am_aload_n dX5_status_96 rfl ?_
    refine am_getI dX5_status_97 fl_RX5_137 sh_5 rfl hk_5 ?_
    obtain ⟨r17, c16, h⟩ := am_bnd h
    refine am_callVi (as := [.inl (M.1 5 o 0 16)]) dX5_status_100 cv_RX5_257 cb_X5_readA sh_5 rfl hk_5 rfl rfl (Nat.le_of_ble_eq_true rfl) (c_X5_readA c16) ?_
    obtain rfl := Option.some.inj h
    exact am_ireturn dX5_status_103 rfl rfl hp
  replace h := am_ifF b15 h
  by_cases b18 : x1 = (7 : Int32)
  · replace h := am_ifT b18 h
    skip
    refine am_swIn 104 dX5_status_3 (by rw [b18]; decide) (by rw [b18]; decide) (by rw [b18]; rfl) rfl ?_
    refine am_aload_n dX5_status_104 rfl ?_
    refine am_getI dX5_status_105 fl_RX5_159 sh_5 rfl hk_5 ?_
    obtain rfl := Option.some.inj h
    exact am_ireturn dX5_status_108 rfl rfl hp
  replace h := am_ifF b18 h
  by_cases b19 : x1 = (8 : Int32)
  · replace h := am_ifT b19 h
    skip
    refine am_swIn 109 dX5_status_3 (by rw [b19]; decide) (by rw [b19]; decide) (by rw [b19]; rfl) rfl ?_
    refine am_aload_n dX5_status_109 rfl ?_
    refine am_getI dX5_status_110 fl_RX5_57 sh_5 rfl hk_5 ?_
    obtain rfl := Option.some.inj h
    exact am_ireturn dX5_status_113 rfl rfl hp
  replace h := am_ifF b19 h
  by_cases b20 : x1 = (9 : Int32)
  · replace h := am_ifT b20 h
    skip
    refine am_swIn 114 dX5_status_3 (by rw [b20]; decide) (by rw [b20]; decide) (by rw [b20]; rfl) rfl ?_
    refine am_iconst dX5_status_114 ic_0 ?_
    refine am_istore_n (ls' := [(0, .inr (.inr (5, o, 0))), (1, .inl x1), (2, .inl (0 : Int32)), (3, .inl (0 : Int32))]) dX5_status_115 (Nat.le_of_ble_eq_true rfl) rfl ?_
    obtain ⟨z29, h30, h⟩ := am_bnd h
    have KK31 : am_W K (d + 2) m_X5_status 145 [(2, .inl z29)] [] M post := by
      refine am_iload_n dX5_status_145 rfl ?_
      obtain rfl := Option.some.inj h
      exact am_ireturn dX5_status_146 rfl rfl hp
    exact am_drop [0, 2, 3] rfl (wl_X5_status_116 _ _ _ _ h30 KK31)
  replace h := am_ifF b20 h
  by_cases b32 : x1 = (10 : Int32)
  · replace h := am_ifT b32 h
    skip
    refine am_swIn 147 dX5_status_3 (by rw [b32]; decide) (by rw [b32]; decide) (by rw [b32]; rfl) rfl ?_
    refine am_aload_n dX5_status_147 rfl ?_
    refine am_aload_n dX5_status_148 rfl ?_
    refine am_getI dX5_status_149 fl_RX5_137 sh_5 rfl hk_5 ?_
    obtain ⟨r34, c33, h⟩ := am_bnd h
    refine am_callVi (as := [.inl (M.1 5 o 0 16)]) dX5_status_152 cv_RX5_283 cb_X5_heapAt sh_5 rfl hk_5 rfl rfl (Nat.le_of_ble_eq_true rfl) (c_X5_heapAt c33) ?_
    obtain rfl := Option.some.inj h
    exact am_ireturn dX5_status_155 rfl rfl hp
  replace h := am_ifF b32 h
  have nb1 : ¬ (x1).toInt = 0 := am_neI b1
  have nb2 : ¬ (x1).toInt = 1 := am_neI b2
  have nb5 : ¬ (x1).toInt = 2 := am_neI b5
  have nb6 : ¬ (x1).toInt = 3 := am_neI b6
  have nb7 : ¬ (x1).toInt = 4 := am_neI b7
  have nb10 : ¬ (x1).toInt = 5 := am_neI b10
  have nb15 : ¬ (x1).toInt = 6 := am_neI b15
  have nb18 : ¬ (x1).toInt = 7 := am_neI b18
  have nb19 : ¬ (x1).toInt = 8 := am_neI b19
  have nb20 : ¬ (x1).toInt = 9 := am_neI b20
  have nb32 : ¬ (x1).toInt = 10 := am_neI b32
  refine am_swOut 156 dX5_status_3 (by omega) rfl ?_
  refine am_iload_n dX5_status_156 rfl ?_
  refine am_i2l dX5_status_157 ?_
  refine am_ldc2 dX5_status_158 kc_RX5_379 ?_
  refine am_ldc2 dX5_status_161 kc_RX5_381 ?_
  obtain ⟨r36, c35, h⟩ := am_bnd h
  refine am_callSi (as := [.inr (.inl x1.toInt64), .inr (.inl (12 : Int64)), .inr (.inl (16 : Int64))]) dX5_status_164 cs_RX5_95 cb_X5_in rfl rfl (Nat.le_of_ble_eq_true rfl) (c_X5_in c35) ?_
  refine am_if_eq 182 dX5_status_167 rfl (fun b38 => ?_) (fun b38 => ?_)
  · replace h := am_ifT b38 h
    refine am_iconst dX5_status_182 ic_m1 ?_
    obtain rfl := Option.some.inj h
    exact am_ireturn dX5_status_183 rfl rfl hp
  · replace h := am_ifF b38 h
    refine am_aload_n dX5_status_170 rfl ?_
    refine am_getR (o' := o) dX5_status_171 fl_RX5_37 sh_5 rfl rfl hk_5 ?_
    refine am_iload_n dX5_status_174 rfl ?_
    refine am_bipush dX5_status_175 bp_10 ?_
    refine am_isub dX5_status_177 ?_
    obtain ⟨g37, h⟩ := am_grd h
    refine am_iaload dX5_status_178 sh_609 hk_609 (am_inbE g37) ?_
    refine am_goto 183 dX5_status_179 rfl ?_
    obtain rfl := Option.some.inj h
    exact am_ireturn dX5_status_183 rfl rfl hp
theorem c_X5_status {K : am_K} {d : Nat} {M : am_M} {o : Nat} {x1 : Int32} {y : Int32} (h : f_X5_status M o x1 = some y) : am_Met K (d + 2) m_X5_status [.inr (.inr (5, o, 0)), .inl x1] M (fun q N => q = some (.inl y) ∧ N = M) :=
  am_Met_of cb_X5_status (Nat.le_of_ble_eq_true rfl) (w_X5_status h ⟨rfl, rfl⟩)
