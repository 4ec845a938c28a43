def l_X5_forget_45 (o0a : Nat) (a2 : Int32) : Nat → Int32 → am_M → Option (am_M)
  | 0, _, _ => none
  | n + 1, a3, M => (if (3 : Int32) ≤ a3 then some M else if am_inb a2 4 = true then if am_inb (a2 + (1 : Int32)) 4 = true then if am_inb a3 3 = true then if am_inb a3 3 = true then am_let (am_si M 715 o0a a2.toNatClampNeg a3.toNatClampNeg (M.1 715 o0a (a2 + (1 : Int32)).toNatClampNeg a3.toNatClampNeg)) (fun M8 => am_let (a3 + (1 : Int32)) (fun v9 => l_X5_forget_45 o0a a2 n v9 M8)) else none else none else none else none)
set_option maxHeartbeats 4000000 in
theorem wl_X5_forget_45 {K : am_K} {d : Nat} {post : Option am_V → am_M → Prop} {o0a : Nat} {a2 : Int32} : ∀ (n : Nat) (a3 : Int32) (M : am_M) (x : am_M), l_X5_forget_45 o0a a2 n a3 M = some x → am_W K (d + 1) m_X5_forget 74 [(0, .inr (.inr (5, o0a, 0))), (2, .inl a2)] [] x post → am_W K (d + 1) m_X5_forget 45 [(0, .inr (.inr (5, o0a, 0))), (2, .inl a2), (3, .inl a3)] [] M post := by
  intro n
  induction n with
  | zero => intro a3 M x h KX; cases h
  | succ n ih =>
    intro a3 M x h KX
    rw [l_X5_forget_45] at h
    refine am_iload_n dX5_forget_45 rfl ?_
    refine am_iconst dX5_forget_46 ic_3 ?_
    refine am_icmp_ge 74 dX5_forget_47 rfl (fun b10 => ?_) (fun b10 => ?_)
    · replace h := am_ifT b10 h
      obtain rfl := Option.some.inj h
      exact am_drop [0, 2] rfl KX
    · replace h := am_ifF b10 h
      refine am_aload_n dX5_forget_50 rfl ?_
      refine am_getR (o' := o0a) dX5_forget_51 fl_RX5_51 sh_5 rfl rfl hk_5 ?_
      refine am_iload_n dX5_forget_54 rfl ?_
      obtain ⟨g4, h⟩ := am_grd h
      refine am_aaload dX5_forget_55 sh_615 rfl rfl hk_615 (am_inbE g4) ?_
      refine am_top (w := .inr (.inr (715, o0a, a2.toNatClampNeg))) rfl ?_
      refine am_iload_n dX5_forget_56 rfl ?_
      refine am_aload_n dX5_forget_57 rfl ?_
      refine am_getR (o' := o0a) dX5_forget_58 fl_RX5_51 sh_5 rfl rfl hk_5 ?_
      refine am_iload_n dX5_forget_61 rfl ?_
      refine am_iconst dX5_forget_62 ic_1 ?_
      refine am_iadd dX5_forget_63 ?_
      obtain ⟨g5, h⟩ := am_grd h
      refine am_aaload dX5_forget_64 sh_615 rfl rfl hk_615 (am_inbE g5) ?_
      refine am_top (w := .inr (.inr (715, o0a, (a2 + (1 : Int32)).toNatClampNeg))) rfl ?_
      refine am_iload_n dX5_forget_65 rfl ?_
      obtain ⟨g6, h⟩ := am_grd h
      refine am_iaload dX5_forget_66 sh_715 hk_715 (am_inbE g6) ?_
      obtain ⟨g7, h⟩ := am_grd h
      obtain ⟨M8, eM8, h⟩ := am_letE h
      refine am_iastore dX5_forget_67 sh_715 hk_715 (am_inbE g7) ?_
      refine am_mem eM8 ?_
      obtain ⟨v9, ev9, h⟩ := am_letE h
      refine am_iinc (ls' := [(0, .inr (.inr (5, o0a, 0))), (2, .inl a2), (3, .inl v9)]) dX5_forget_68 rfl ((congrArg (fun z => a3 + z) ic_1).trans ev9.symm) (Nat.le_of_ble_eq_true rfl) rfl ?_
      refine am_goto 45 dX5_forget_71 rfl ?_
      exact am_drop [0, 2, 3] rfl (ih _ _ _ h KX)
def l_X5_forget_35 (o0a : Nat) : Nat → Int32 → am_M → Option (am_M)
  | 0, _, _ => none
  | n + 1, a2, M => (if (M.1 5 o0a 0 14) ≤ a2 then some M else (l_X5_forget_45 o0a a2 1000 (0 : Int32) M).bind (fun z11 => am_let (a2 + (1 : Int32)) (fun v14 => l_X5_forget_35 o0a n v14 z11)))
set_option maxHeartbeats 4000000 in
theorem wl_X5_forget_35 {K : am_K} {d : Nat} {post : Option am_V → am_M → Prop} {o0a : Nat} : ∀ (n : Nat) (a2 : Int32) (M : am_M) (x : am_M), l_X5_forget_35 o0a n a2 M = some x → am_W K (d + 1) m_X5_forget 80 [(0, .inr (.inr (5, o0a, 0)))] [] x post → am_W K (d + 1) m_X5_forget 35 [(0, .inr (.inr (5, o0a, 0))), (2, .inl a2)] [] M post := by
  intro n
  induction n with
  | zero => intro a2 M x h KX; cases h
  | succ n ih =>
    intro a2 M x h KX
    rw [l_X5_forget_35] at h
    refine am_iload_n dX5_forget_35 rfl ?_
    refine am_aload_n dX5_forget_36 rfl ?_
    refine am_getI dX5_forget_37 fl_RX5_151 sh_5 rfl hk_5 ?_
    refine am_icmp_ge 80 dX5_forget_40 rfl (fun b15 => ?_) (fun b15 => ?_)
    · replace h := am_ifT b15 h
      obtain rfl := Option.some.inj h
      exact am_drop [0] rfl KX
    · replace h := am_ifF b15 h
      refine am_iconst dX5_forget_43 ic_0 ?_
      refine am_istore_n (ls' := [(0, .inr (.inr (5, o0a, 0))), (2, .inl a2), (3, .inl (0 : Int32))]) dX5_forget_44 (Nat.le_of_ble_eq_true rfl) rfl ?_
      obtain ⟨z11, h12, h⟩ := am_bnd h
      have KK13 : am_W K (d + 1) m_X5_forget 74 [(0, .inr (.inr (5, o0a, 0))), (2, .inl a2)] [] z11 post := by
        obtain ⟨v14, ev14, h⟩ := am_letE h
        refine am_iinc (ls' := [(0, .inr (.inr (5, o0a, 0))), (2, .inl v14)]) dX5_forget_74 rfl ((congrArg (fun z => a2 + z) ic_1).trans ev14.symm) (Nat.le_of_ble_eq_true rfl) rfl ?_
        refine am_goto 35 dX5_forget_77 rfl ?_
        exact am_drop [0, 2] rfl (ih _ _ _ h KX)
      exact am_drop [0, 2, 3] rfl (wl_X5_forget_45 _ _ _ _ h12 KK13)
def f_X5_forget (M : am_M) (o : Nat) (x1 : Int32) : Option (Int32 × am_M) :=
  (f_X5_in M x1.toInt64 (0 : Int64) (((M.1 5 o 0 14) - (1 : Int32)).toInt64)).bind (fun r2 => (if r2 = 0 then (f_X5_refuse M o (-2 : Int32)).bind (fun r20 => some (r20.1, r20.2)) else am_let (am_si M 5 o 0 14 ((M.1 5 o 0 14) - (1 : Int32))) (fun M3 => (l_X5_forget_35 o 1000 x1 M3).bind (fun z16 => some ((z16.1 5 o 0 14), z16)))))
set_option maxHeartbeats 4000000 in
theorem w_X5_forget {K : am_K} {d : Nat} {post : Option am_V → am_M → Prop} {M : am_M} {o : Nat} {x1 : Int32} {y : Int32 × am_M} (h : f_X5_forget M o x1 = some y) (hp : post (some (.inl y.1)) y.2) : am_W K (d + 1) m_X5_forget 0 [(0, .inr (.inr (5, o, 0))), (1, .inl x1)] [] M post := by
  unfold f_X5_forget at h
  refine am_iload_n dX5_forget_0 rfl ?_
  refine am_i2l dX5_forget_1 ?_
  refine am_lconst dX5_forget_2 lc_0 ?_
  refine am_aload_n dX5_forget_3 rfl ?_
  refine am_getI dX5_forget_4 fl_RX5_151 sh_5 rfl hk_5 ?_
  refine am_iconst dX5_forget_7 ic_1 ?_
  refine am_isub dX5_forget_8 ?_
  refine am_i2l dX5_forget_9 ?_
  obtain ⟨r2, c1, h⟩ := am_bnd h
  refine am_callSi (as := [.inr (.inl x1.toInt64), .inr (.inl (0 : Int64)), .inr (.inl (((M.1 5 o 0 14) - (1 : Int32)).toInt64))]) dX5_forget_10 cs_RX5_95 cb_X5_in rfl rfl (Nat.le_of_ble_eq_true rfl) (c_X5_in c1) ?_
  refine am_if_ne 23 dX5_forget_13 rfl (fun b21 => ?_) (fun b21 => ?_)
  · replace h := am_ifF b21 h
    refine am_aload_n dX5_forget_23 rfl ?_
    refine am_dup dX5_forget_24 rfl ?_
    refine am_getI dX5_forget_25 fl_RX5_151 sh_5 rfl hk_5 ?_
    refine am_iconst dX5_forget_28 ic_1 ?_
    refine am_isub dX5_forget_29 ?_
    obtain ⟨M3, eM3, h⟩ := am_letE h
    refine am_putI dX5_forget_30 fl_RX5_151 fp_X5_14 sh_5 rfl rfl rfl hk_5 ?_
    refine am_mem eM3 ?_
    refine am_iload_n dX5_forget_33 rfl ?_
    refine am_istore_n (ls' := [(0, .inr (.inr (5, o, 0))), (1, .inl x1), (2, .inl x1)]) dX5_forget_34 (Nat.le_of_ble_eq_true rfl) rfl ?_
    obtain ⟨z16, h17, h⟩ := am_bnd h
    have KK18 : am_W K (d + 1) m_X5_forget 80 [(0, .inr (.inr (5, o, 0)))] [] z16 post := by
      refine am_aload_n dX5_forget_80 rfl ?_
      refine am_getI dX5_forget_81 fl_RX5_151 sh_5 rfl hk_5 ?_
      obtain rfl := Option.some.inj h
      exact am_ireturn dX5_forget_84 rfl rfl hp
    exact am_drop [0, 2] rfl (wl_X5_forget_35 _ _ _ _ h17 KK18)
  · replace h := am_ifT b21 h
    refine am_aload_n dX5_forget_16 rfl ?_
    refine am_bipush dX5_forget_17 bp_m2 ?_
    obtain ⟨r20, c19, h⟩ := am_bnd h
    refine am_callVi (as := [.inl (-2 : Int32)]) dX5_forget_19 cv_RX5_103 cb_X5_refuse sh_5 rfl hk_5 rfl rfl (Nat.le_of_ble_eq_true rfl) (c_X5_refuse c19) ?_
    obtain rfl := Option.some.inj h
    exact am_ireturn dX5_forget_22 rfl rfl hp
theorem c_X5_forget {K : am_K} {d : Nat} {M : am_M} {o : Nat} {x1 : Int32} {y : Int32 × am_M} (h : f_X5_forget M o x1 = some y) : am_Met K (d + 1) m_X5_forget [.inr (.inr (5, o, 0)), .inl x1] M (fun q N => q = some (.inl y.1) ∧ N = y.2) :=
  am_Met_of cb_X5_forget (Nat.le_of_ble_eq_true rfl) (w_X5_forget h ⟨rfl, rfl⟩)
def f_X5_change (M : am_M) (o : Nat) (x1 : Int32) (x2 : Int32) : Option (am_M) :=
  if am_inb x1 4 = true then am_let (M.1 613 o 0 x1.toNatClampNeg) (fun v2 => if am_inb x2 4 = true then if am_inb x1 4 = true then am_let (am_si M 613 o 0 x1.toNatClampNeg (M.1 613 o 0 x2.toNatClampNeg)) (fun M5 => if am_inb x2 4 = true then am_let (am_si M5 613 o 0 x2.toNatClampNeg v2) (fun M7 => some M7) else none) else none else none) else none
set_option maxHeartbeats 4000000 in
theorem w_X5_change {K : am_K} {d : Nat} {post : Option am_V → am_M → Prop} {M : am_M} {o : Nat} {x1 : Int32} {x2 : Int32} {y : am_M} (h : f_X5_change M o x1 x2 = some y) (hp : post none y) : am_W K d m_X5_change 0 [(0, .inr (.inr (5, o, 0))), (1, .inl x1), (2, .inl x2)] [] M post := by
  unfold f_X5_change at h
  refine am_aload_n dX5_change_0 rfl ?_
  refine am_getR (o' := o) dX5_change_1 fl_RX5_46 sh_5 rfl rfl hk_5 ?_
  refine am_iload_n dX5_change_4 rfl ?_
  obtain ⟨g1, h⟩ := am_grd h
  refine am_iaload dX5_change_5 sh_613 hk_613 (am_inbE g1) ?_
  obtain ⟨v2, ev2, h⟩ := am_letE h
  refine am_topI ev2 ?_
  refine am_istore_n (ls' := [(0, .inr (.inr (5, o, 0))), (1, .inl x1), (2, .inl x2), (3, .inl v2)]) dX5_change_6 (Nat.le_of_ble_eq_true rfl) rfl ?_
  refine am_aload_n dX5_change_7 rfl ?_
  refine am_getR (o' := o) dX5_change_8 fl_RX5_46 sh_5 rfl rfl hk_5 ?_
  refine am_iload_n dX5_change_11 rfl ?_
  refine am_aload_n dX5_change_12 rfl ?_
  refine am_getR (o' := o) dX5_change_13 fl_RX5_46 sh_5 rfl rfl hk_5 ?_
  refine am_iload_n dX5_change_16 rfl ?_
  obtain ⟨g3, h⟩ := am_grd h
  refine am_iaload dX5_change_17 sh_613 hk_613 (am_inbE g3) ?_
  obtain ⟨g4, h⟩ := am_grd h
  obtain ⟨M5, eM5, h⟩ := am_letE h
  refine am_iastore dX5_change_18 sh_613 hk_613 (am_inbE g4) ?_
  refine am_mem eM5 ?_
  refine am_aload_n dX5_change_19 rfl ?_
  refine am_getR (o' := o) dX5_change_20 fl_RX5_46 sh_5 rfl rfl hk_5 ?_
  refine am_iload_n dX5_change_23 rfl ?_
  refine am_iload_n dX5_change_24 rfl ?_
  obtain ⟨g6, h⟩ := am_grd h
  obtain ⟨M7, eM7, h⟩ := am_letE h
  refine am_iastore dX5_change_25 sh_613 hk_613 (am_inbE g6) ?_
  refine am_mem eM7 ?_
  obtain rfl := Option.some.inj h
  exact am_return dX5_change_26 rfl hp
theorem c_X5_change {K : am_K} {d : Nat} {M : am_M} {o : Nat} {x1 : Int32} {x2 : Int32} {y : am_M} (h : f_X5_change M o x1 x2 = some y) : am_Met K d m_X5_change [.inr (.inr (5, o, 0)), .inl x1, .inl x2] M (fun q N => q = none ∧ N = y) :=
  am_Met_of cb_X5_change (Nat.le_of_ble_eq_true rfl) (w_X5_change h ⟨rfl, rfl⟩)
def f_X5_swap (M : am_M) (o : Nat) (x1 : Int32) (x2 : Int32) : Option (Int32 × am_M) :=
  (f_X5_in M x1.toInt64 (0 : Int64) (((M.1 5 o 0 10) - (1 : Int32)).toInt64)).bind (fun r2 => (if r2 = 0 then (f_X5_refuse M o (-2 : Int32)).bind (fun r4 => some (r4.1, r4.2)) else (f_X5_in M x2.toInt64 (0 : Int64) (((M.1 5 o 0 10) - (1 : Int32)).toInt64)).bind (fun r6 => (if r6 = 0 then (f_X5_refuse M o (-2 : Int32)).bind (fun r14 => some (r14.1, r14.2)) else (if (M.1 5 o 0 16) ≤ 0 then (f_X5_change M o x1 x2).bind (fun r8 => (if x1 = x2 then some ((0 : Int32), r8) else some ((1 : Int32), r8))) else (f_X5_refuse M o (-5 : Int32)).bind (fun r11 => some (r11.1, r11.2)))))))
set_option maxHeartbeats 4000000 in
theorem w_X5_swap {K : am_K} {d : Nat} {post : Option am_V → am_M → Prop} {M : am_M} {o : Nat} {x1 : Int32} {x2 : Int32} {y : Int32 × am_M} (h : f_X5_swap M o x1 x2 = some y) (hp : post (some (.inl y.1)) y.2) : am_W K (d + 1) m_X5_swap 0 [(0, .inr (.inr (5, o, 0))), (1, .inl x1), (2, .inl x2)] [] M post := by
  unfold f_X5_swap at h
  refine am_iload_n dX5_swap_0 rfl ?_
  refine am_i2l dX5_swap_1 ?_
  refine am_lconst dX5_swap_2 lc_0 ?_
  refine am_aload_n dX5_swap_3 rfl ?_
  refine am_getI dX5_swap_4 fl_RX5_130 sh_5 rfl hk_5 ?_
  refine am_iconst dX5_swap_7 ic_1 ?_
  refine am_isub dX5_swap_8 ?_
  refine am_i2l dX5_swap_9 ?_
  obtain ⟨r2, c1, h⟩ := am_bnd h
  refine am_callSi (as := [.inr (.inl x1.toInt64), .inr (.inl (0 : Int64)), .inr (.inl (((M.1 5 o 0 10) - (1 : Int32)).toInt64))]) dX5_swap_10 cs_RX5_95 cb_X5_in rfl rfl (Nat.le_of_ble_eq_true rfl) (c_X5_in c1) ?_
  refine am_if_eq 32 dX5_swap_13 rfl (fun b16 => ?_) (fun b16 => ?_)
  · replace h := am_ifT b16 h
    refine am_aload_n dX5_swap_32 rfl ?_
    refine am_bipush dX5_swap_33 bp_m2 ?_
    obtain ⟨r4, c3, h⟩ := am_bnd h
    refine am_callVi (as := [.inl (-2 : Int32)]) dX5_swap_35 cv_RX5_103 cb_X5_refuse sh_5 rfl hk_5 rfl rfl (Nat.le_of_ble_eq_true rfl) (c_X5_refuse c3) ?_
    obtain rfl := Option.some.inj h
    exact am_ireturn dX5_swap_38 rfl rfl hp
  · replace h := am_ifF b16 h
    refine am_iload_n dX5_swap_16 rfl ?_
    refine am_i2l dX5_swap_17 ?_
    refine am_lconst dX5_swap_18 lc_0 ?_
    refine am_aload_n dX5_swap_19 rfl ?_
    refine am_getI dX5_swap_20 fl_RX5_130 sh_5 rfl hk_5 ?_
    refine am_iconst dX5_swap_23 ic_1 ?_
    refine am_isub dX5_swap_24 ?_
    refine am_i2l dX5_swap_25 ?_
    obtain ⟨r6, c5, h⟩ := am_bnd h
    refine am_callSi (as := [.inr (.inl x2.toInt64), .inr (.inl (0 : Int64)), .inr (.inl (((M.1 5 o 0 10) - (1 : Int32)).toInt64))]) dX5_swap_26 cs_RX5_95 cb_X5_in rfl rfl (Nat.le_of_ble_eq_true rfl) (c_X5_in c5) ?_
    refine am_if_ne 39 dX5_swap_29 rfl (fun b15 => ?_) (fun b15 => ?_)
    · replace h := am_ifF b15 h
      refine am_aload_n dX5_swap_39 rfl ?_
      refine am_getI dX5_swap_40 fl_RX5_137 sh_5 rfl hk_5 ?_
      refine am_if_le 53 dX5_swap_43 rfl (fun b12 => ?_) (fun b12 => ?_)
      · replace h := am_ifT b12 h
        refine am_aload_n dX5_swap_53 rfl ?_
        refine am_iload_n dX5_swap_54 rfl ?_
        refine am_iload_n dX5_swap_55 rfl ?_
        obtain ⟨r8, c7, h⟩ := am_bnd h
        refine am_callVv (as := [.inl x1, .inl x2]) dX5_swap_56 cv_RX5_154 cb_X5_change sh_5 rfl hk_5 rfl rfl (Nat.le_of_ble_eq_true rfl) (c_X5_change c7) ?_
        refine am_iload_n dX5_swap_59 rfl ?_
        refine am_iload_n dX5_swap_60 rfl ?_
        refine am_icmp_ne 68 dX5_swap_61 rfl (fun b9 => ?_) (fun b9 => ?_)
        · replace h := am_ifF b9 h
          refine am_iconst dX5_swap_68 ic_1 ?_
          obtain rfl := Option.some.inj h
          exact am_ireturn dX5_swap_69 rfl rfl hp
        · replace h := am_ifT b9 h
          refine am_iconst dX5_swap_64 ic_0 ?_
          refine am_goto 69 dX5_swap_65 rfl ?_
          obtain rfl := Option.some.inj h
          exact am_ireturn dX5_swap_69 rfl rfl hp
      · replace h := am_ifF b12 h
        refine am_aload_n dX5_swap_46 rfl ?_
        refine am_bipush dX5_swap_47 bp_m5 ?_
        obtain ⟨r11, c10, h⟩ := am_bnd h
        refine am_callVi (as := [.inl (-5 : Int32)]) dX5_swap_49 cv_RX5_103 cb_X5_refuse sh_5 rfl hk_5 rfl rfl (Nat.le_of_ble_eq_true rfl) (c_X5_refuse c10) ?_
        obtain rfl := Option.some.inj h
        exact am_ireturn dX5_swap_52 rfl rfl hp
    · replace h := am_ifT b15 h
      refine am_aload_n dX5_swap_32 rfl ?_
      refine am_bipush dX5_swap_33 bp_m2 ?_
      obtain ⟨r14, c13, h⟩ := am_bnd h
      refine am_callVi (as := [.inl (-2 : Int32)]) dX5_swap_35 cv_RX5_103 cb_X5_refuse sh_5 rfl hk_5 rfl rfl (Nat.le_of_ble_eq_true rfl) (c_X5_refuse c13) ?_
      obtain rfl := Option.some.inj h
      exact am_ireturn dX5_swap_38 rfl rfl hp
theorem c_X5_swap {K : am_K} {d : Nat} {M : am_M} {o : Nat} {x1 : Int32} {x2 : Int32} {y : Int32 × am_M} (h : f_X5_swap M o x1 x2 = some y) : am_Met K (d + 1) m_X5_swap [.inr (.inr (5, o, 0)), .inl x1, .inl x2] M (fun q N => q = some (.inl y.1) ∧ N = y.2) :=
  am_Met_of cb_X5_swap (Nat.le_of_ble_eq_true rfl) (w_X5_swap h ⟨rfl, rfl⟩)
def f_X5_feed (M : am_M) (o : Nat) (x1 : Int32) : Option (Int32 × am_M) :=
  (f_X5_in M x1.toInt64 (0 : Int64) (255 : Int64)).bind (fun r2 => (if r2 = 0 then (f_X5_refuse M o (-2 : Int32)).bind (fun r10 => some (r10.1, r10.2)) else (if (M.1 5 o 0 8) = (250 : Int32) then (f_X5_refuse M o (-6 : Int32)).bind (fun r7 => some (r7.1, r7.2)) else am_let (am_si M 5 o 0 8 ((M.1 5 o 0 8) + (1 : Int32))) (fun M3 => if am_inb (M.1 5 o 0 8) 250 = true then am_let (am_si M3 607 o 0 (M.1 5 o 0 8).toNatClampNeg x1) (fun M5 => some ((M5.1 5 o 0 8), M5)) else none))))
set_option maxHeartbeats 4000000 in
theorem w_X5_feed {K : am_K} {d : Nat} {post : Option am_V → am_M → Prop} {M : am_M} {o : Nat} {x1 : Int32} {y : Int32 × am_M} (h : f_X5_feed M o x1 = some y) (hp : post (some (.inl y.1)) y.2) : am_W K (d + 1) m_X5_feed 0 [(0, .inr (.inr (5, o, 0))), (1, .inl x1)] [] M post := by
  unfold f_X5_feed at h
  refine am_iload_n dX5_feed_0 rfl ?_
  refine am_i2l dX5_feed_1 ?_
  refine am_lconst dX5_feed_2 lc_0 ?_
  refine am_ldc2 dX5_feed_3 kc_RX5_157 ?_
  obtain ⟨r2, c1, h⟩ := am_bnd h
  refine am_callSi (as := [.inr (.inl x1.toInt64), .inr (.inl (0 : Int64)), .inr (.inl (255 : Int64))]) dX5_feed_6 cs_RX5_95 cb_X5_in rfl rfl (Nat.le_of_ble_eq_true rfl) (c_X5_in c1) ?_
  refine am_if_ne 19 dX5_feed_9 rfl (fun b11 => ?_) (fun b11 => ?_)
  · replace h := am_ifF b11 h
    refine am_aload_n dX5_feed_19 rfl ?_
    refine am_getI dX5_feed_20 fl_RX5_159 sh_5 rfl hk_5 ?_
    refine am_sipush dX5_feed_23 sp_250 ?_
    refine am_icmp_ne 36 dX5_feed_26 rfl (fun b8 => ?_) (fun b8 => ?_)
    · replace h := am_ifF b8 h
      refine am_aload_n dX5_feed_36 rfl ?_
      refine am_getR (o' := o) dX5_feed_37 fl_RX5_34 sh_5 rfl rfl hk_5 ?_
      refine am_aload_n dX5_feed_40 rfl ?_
      refine am_dup dX5_feed_41 rfl ?_
      refine am_getI dX5_feed_42 fl_RX5_159 sh_5 rfl hk_5 ?_
      refine am_dup_x1 dX5_feed_45 rfl rfl ?_
      refine am_iconst dX5_feed_46 ic_1 ?_
      refine am_iadd dX5_feed_47 ?_
      obtain ⟨M3, eM3, h⟩ := am_letE h
      refine am_putI dX5_feed_48 fl_RX5_159 fp_X5_8 sh_5 rfl rfl rfl hk_5 ?_
      refine am_mem eM3 ?_
      refine am_iload_n dX5_feed_51 rfl ?_
      obtain ⟨g4, h⟩ := am_grd h
      obtain ⟨M5, eM5, h⟩ := am_letE h
      refine am_iastore dX5_feed_52 sh_607 hk_607 (am_inbE g4) ?_
      refine am_mem eM5 ?_
      refine am_aload_n dX5_feed_53 rfl ?_
      refine am_getI dX5_feed_54 fl_RX5_159 sh_5 rfl hk_5 ?_
      obtain rfl := Option.some.inj h
      exact am_ireturn dX5_feed_57 rfl rfl hp
    · replace h := am_ifT b8 h
      refine am_aload_n dX5_feed_29 rfl ?_
      refine am_bipush dX5_feed_30 bp_m6 ?_
      obtain ⟨r7, c6, h⟩ := am_bnd h
      refine am_callVi (as := [.inl (-6 : Int32)]) dX5_feed_32 cv_RX5_103 cb_X5_refuse sh_5 rfl hk_5 rfl rfl (Nat.le_of_ble_eq_true rfl) (c_X5_refuse c6) ?_
      obtain rfl := Option.some.inj h
      exact am_ireturn dX5_feed_35 rfl rfl hp
  · replace h := am_ifT b11 h
    refine am_aload_n dX5_feed_12 rfl ?_
    refine am_bipush dX5_feed_13 bp_m2 ?_
    obtain ⟨r10, c9, h⟩ := am_bnd h
    refine am_callVi (as := [.inl (-2 : Int32)]) dX5_feed_15 cv_RX5_103 cb_X5_refuse sh_5 rfl hk_5 rfl rfl (Nat.le_of_ble_eq_true rfl) (c_X5_refuse c9) ?_
    obtain rfl := Option.some.inj h
    exact am_ireturn dX5_feed_18 rfl rfl hp
theorem c_X5_feed {K : am_K} {d : Nat} {M : am_M} {o : Nat} {x1 : Int32} {y : Int32 × am_M} (h : f_X5_feed M o x1 = some y) : am_Met K (d + 1) m_X5_feed [.inr (.inr (5, o, 0)), .inl x1] M (fun q N => q = some (.inl y.1) ∧ N = y.2) :=
  am_Met_of cb_X5_feed (Nat.le_of_ble_eq_true rfl) (w_X5_feed h ⟨rfl, rfl⟩)
def f_X5_wipe (M : am_M) (o : Nat) : Option (Int32 × am_M) :=
  am_let (M.1 5 o 0 8) (fun v1 => am_let (am_si M 5 o 0 8 (0 : Int32)) (fun M2 => some (v1, M2)))
set_option maxHeartbeats 4000000 in
theorem w_X5_wipe {K : am_K} {d : Nat} {post : Option am_V → am_M → Prop} {M : am_M} {o : Nat} {y : Int32 × am_M} (h : f_X5_wipe M o = some y) (hp : post (some (.inl y.1)) y.2) : am_W K d m_X5_wipe 0 [(0, .inr (.inr (5, o, 0)))] [] M post := by
  unfold f_X5_wipe at h
  refine am_aload_n dX5_wipe_0 rfl ?_
  refine am_getI dX5_wipe_1 fl_RX5_159 sh_5 rfl hk_5 ?_
  obtain ⟨v1, ev1, h⟩ := am_letE h
  refine am_topI ev1 ?_
  refine am_istore_n (ls' := [(0, .inr (.inr (5, o, 0))), (1, .inl v1)]) dX5_wipe_4 (Nat.le_of_ble_eq_true rfl) rfl ?_
  refine am_aload_n dX5_wipe_5 rfl ?_
  refine am_iconst dX5_wipe_6 ic_0 ?_
  obtain ⟨M2, eM2, h⟩ := am_letE h
  refine am_putI dX5_wipe_7 fl_RX5_159 fp_X5_8 sh_5 rfl rfl rfl hk_5 ?_
  refine am_mem eM2 ?_
  refine am_iload_n dX5_wipe_10 rfl ?_
  obtain rfl := Option.some.inj h
  exact am_ireturn dX5_wipe_11 rfl rfl hp
theorem c_X5_wipe {K : am_K} {d : Nat} {M : am_M} {o : Nat} {y : Int32 × am_M} (h : f_X5_wipe M o = some y) : am_Met K d m_X5_wipe [.inr (.inr (5, o, 0))] M (fun q N => q = some (.inl y.1) ∧ N = y.2) :=
  am_Met_of cb_X5_wipe (Nat.le_of_ble_eq_true rfl) (w_X5_wipe h ⟨rfl, rfl⟩)
def f_X5_isLetter (M : am_M) (x0 : Int32) : Option (Int32) :=
  (if x0 < (97 : Int32) then some (0 : Int32) else (if (122 : Int32) < x0 then some (0 : Int32) else some (1 : Int32)))
set_option maxHeartbeats 4000000 in
theorem w_X5_isLetter {K : am_K} {d : Nat} {post : Option am_V → am_M → Prop} {M : am_M} {x0 : Int32} {y : Int32} (h : f_X5_isLetter M x0 = some y) (hp : post (some (.inl y)) M) : am_W K d m_X5_isLetter 0 [(0, .inl x0)] [] M post := by
  unfold f_X5_isLetter at h
  refine am_iload_n dX5_isLetter_0 rfl ?_
  refine am_bipush dX5_isLetter_1 bp_97 ?_
  refine am_icmp_lt 16 dX5_isLetter_3 rfl (fun b2 => ?_) (fun b2 => ?_)
  · replace h := am_ifT b2 h
    refine am_iconst dX5_isLetter_16 ic_0 ?_
    obtain rfl := Option.some.inj h
    exact am_ireturn dX5_isLetter_17 rfl (am_narZ (by decide)) hp
  · replace h := am_ifF b2 h
    refine am_iload_n dX5_isLetter_6 rfl ?_
    refine am_bipush dX5_isLetter_7 bp_122 ?_
    refine am_icmp_gt 16 dX5_isLetter_9 rfl (fun b1 => ?_) (fun b1 => ?_)
    · replace h := am_ifT b1 h
      refine am_iconst dX5_isLetter_16 ic_0 ?_
      obtain rfl := Option.some.inj h
      exact am_ireturn dX5_isLetter_17 rfl (am_narZ (by decide)) hp
    · replace h := am_ifF b1 h
      refine am_iconst dX5_isLetter_12 ic_1 ?_
      refine am_goto 17 dX5_isLetter_13 rfl ?_
      obtain rfl := Option.some.inj h
      exact am_ireturn dX5_isLetter_17 rfl (am_narZ (by decide)) hp
theorem c_X5_isLetter {K : am_K} {d : Nat} {M : am_M} {x0 : Int32} {y : Int32} (h : f_X5_isLetter M x0 = some y) : am_Met K d m_X5_isLetter [.inl x0] M (fun q N => q = some (.inl y) ∧ N = M) :=
  am_Met_of cb_X5_isLetter (Nat.le_of_ble_eq_true rfl) (w_X5_isLetter h ⟨rfl, rfl⟩)
def f_X5_isDigit (M : am_M) (x0 : Int32) : Option (Int32) :=
  (if x0 < (48 : Int32) then some (0 : Int32) else (if (57 : Int32) < x0 then some (0 : Int32) else some (1 : Int32)))
set_option maxHeartbeats 4000000 in
theorem w_X5_isDigit {K : am_K} {d : Nat} {post : Option am_V → am_M → Prop} {M : am_M} {x0 : Int32} {y : Int32} (h : f_X5_isDigit M x0 = some y) (hp : post (some (.inl y)) M) : am_W K d m_X5_isDigit 0 [(0, .inl x0)] [] M post := by
  unfold f_X5_isDigit at h
  refine am_iload_n dX5_isDigit_0 rfl ?_
  refine am_bipush dX5_isDigit_1 bp_48 ?_
  refine am_icmp_lt 16 dX5_isDigit_3 rfl (fun b2 => ?_) (fun b2 => ?_)
  · replace h := am_ifT b2 h
    refine am_iconst dX5_isDigit_16 ic_0 ?_
    obtain rfl := Option.some.inj h
    exact am_ireturn dX5_isDigit_17 rfl (am_narZ (by decide)) hp
  · replace h := am_ifF b2 h
    refine am_iload_n dX5_isDigit_6 rfl ?_
    refine am_bipush dX5_isDigit_7 bp_57 ?_
    refine am_icmp_gt 16 dX5_isDigit_9 rfl (fun b1 => ?_) (fun b1 => ?_)
    · replace h := am_ifT b1 h
      refine am_iconst dX5_isDigit_16 ic_0 ?_
      obtain rfl := Option.some.inj h
      exact am_ireturn dX5_isDigit_17 rfl (am_narZ (by decide)) hp
    · replace h := am_ifF b1 h
      refine am_iconst dX5_isDigit_12 ic_1 ?_
      refine am_goto 17 dX5_isDigit_13 rfl ?_
      obtain rfl := Option.some.inj h
      exact am_ireturn dX5_isDigit_17 rfl (am_narZ (by decide)) hp
theorem c_X5_isDigit {K : am_K} {d : Nat} {M : am_M} {x0 : Int32} {y : Int32} (h : f_X5_isDigit M x0 = some y) : am_Met K d m_X5_isDigit [.inl x0] M (fun q N => q = some (.inl y) ∧ N = M) :=
  am_Met_of cb_X5_isDigit (Nat.le_of_ble_eq_true rfl) (w_X5_isDigit h ⟨rfl, rfl⟩)
def l_X5_look_0 (o0a : Nat) : Nat → am_M → Option (am_M)
  | 0, _ => none
  | n + 1, M => (if (M.1 5 o0a 0 8) ≤ (M.1 5 o0a 0 21) then some M else if am_inb (M.1 5 o0a 0 21) 250 = true then (if (M.1 607 o0a 0 (M.1 5 o0a 0 21).toNatClampNeg) = (32 : Int32) then am_let (am_si M 5 o0a 0 21 ((M.1 5 o0a 0 21) + (1 : Int32))) (fun M7 => l_X5_look_0 o0a n M7) else some M) else none)
set_option maxHeartbeats 4000000 in
theorem wl_X5_look_0 {K : am_K} {d : Nat} {post : Option am_V → am_M → Prop} {o0a : Nat} : ∀ (n : Nat) (M : am_M) (x : am_M), l_X5_look_0 o0a n M = some x → am_W K (d + 1) m_X5_look 38 [(0, .inr (.inr (5, o0a, 0)))] [] x post → am_W K (d + 1) m_X5_look 0 [(0, .inr (.inr (5, o0a, 0)))] [] M post := by
  intro n
  induction n with
  | zero => intro M x h KX; cases h
  | succ n ih =>
    intro M x h KX
    rw [l_X5_look_0] at h
    refine am_aload_n dX5_look_0 rfl ?_
    refine am_getI dX5_look_1 fl_RX5_162 sh_5 rfl hk_5 ?_
    refine am_aload_n dX5_look_4 rfl ?_
    refine am_getI dX5_look_5 fl_RX5_159 sh_5 rfl hk_5 ?_
    refine am_icmp_ge 38 dX5_look_8 rfl (fun b9 => ?_) (fun b9 => ?_)
    · replace h := am_ifT b9 h
      obtain rfl := Option.some.inj h
      exact am_drop [0] rfl KX
    · replace h := am_ifF b9 h
      refine am_aload_n dX5_look_11 rfl ?_
      refine am_getR (o' := o0a) dX5_look_12 fl_RX5_34 sh_5 rfl rfl hk_5 ?_
      refine am_aload_n dX5_look_15 rfl ?_
      refine am_getI dX5_look_16 fl_RX5_162 sh_5 rfl hk_5 ?_
      obtain ⟨g6, h⟩ := am_grd h
      refine am_iaload dX5_look_19 sh_607 hk_607 (am_inbE g6) ?_
      refine am_bipush dX5_look_20 bp_32 ?_
      refine am_icmp_ne 38 dX5_look_22 rfl (fun b8 => ?_) (fun b8 => ?_)
      · replace h := am_ifF b8 h
        obtain rfl := Option.some.inj h
        exact am_drop [0] rfl KX
      · replace h := am_ifT b8 h
        refine am_aload_n dX5_look_25 rfl ?_
        refine am_dup dX5_look_26 rfl ?_
        refine am_getI dX5_look_27 fl_RX5_162 sh_5 rfl hk_5 ?_
        refine am_iconst dX5_look_30 ic_1 ?_
        refine am_iadd dX5_look_31 ?_
        obtain ⟨M7, eM7, h⟩ := am_letE h
        refine am_putI dX5_look_32 fl_RX5_162 fp_X5_21 sh_5 rfl rfl rfl hk_5 ?_
        refine am_mem eM7 ?_
        refine am_goto 0 dX5_look_35 rfl ?_
        exact am_drop [0] rfl (ih _ _ h KX)
def l_X5_look_149 (o0a : Nat) : Nat → am_M → Option (am_M)
  | 0, _ => none
  | n + 1, M => (if (M.1 5 o0a 0 8) ≤ (M.1 5 o0a 0 21) then some M else if am_inb (M.1 5 o0a 0 21) 250 = true then (f_X5_isDigit M (M.1 607 o0a 0 (M.1 5 o0a 0 21).toNatClampNeg)).bind (fun r32 => (if r32 = 0 then some M else ((if (2 : Int32) ≤ ((M.1 5 o0a 0 21) - (M.1 5 o0a 0 23)) then some (100000 : Int32) else if am_inb (M.1 5 o0a 0 21) 250 = true then some ((((M.1 5 o0a 0 24) * (10 : Int32)) + (M.1 607 o0a 0 (M.1 5 o0a 0 21).toNatClampNeg)) - (48 : Int32)) else none) : Option (Int32)).bind (fun z33 => am_let (am_si M 5 o0a 0 24 z33) (fun M38 => am_let (am_si M38 5 o0a 0 21 ((M38.1 5 o0a 0 21) + (1 : Int32))) (fun M39 => l_X5_look_149 o0a n M39))))) else none)
set_option maxHeartbeats 4000000 in
theorem wl_X5_look_149 {K : am_K} {d : Nat} {post : Option am_V → am_M → Prop} {o0a : Nat} : ∀ (n : Nat) (M : am_M) (x : am_M), l_X5_look_149 o0a n M = some x → am_W K (d + 1) m_X5_look 263 [] [] x post → am_W K (d + 1) m_X5_look 149 [(0, .inr (.inr (5, o0a, 0)))] [] M post := by
  intro n
  induction n with
  | zero => intro M x h KX; cases h
  | succ n ih =>
    intro M x h KX
    rw [l_X5_look_149] at h
    refine am_aload_n dX5_look_149 rfl ?_
    refine am_getI dX5_look_150 fl_RX5_162 sh_5 rfl hk_5 ?_
    refine am_aload_n dX5_look_153 rfl ?_
    refine am_getI dX5_look_154 fl_RX5_159 sh_5 rfl hk_5 ?_
    refine am_icmp_ge 263 dX5_look_157 rfl (fun b41 => ?_) (fun b41 => ?_)
    · replace h := am_ifT b41 h
      obtain rfl := Option.some.inj h
      exact am_drop [] rfl KX
    · replace h := am_ifF b41 h
      refine am_aload_n dX5_look_160 rfl ?_
      refine am_getR (o' := o0a) dX5_look_161 fl_RX5_34 sh_5 rfl rfl hk_5 ?_
      refine am_aload_n dX5_look_164 rfl ?_
      refine am_getI dX5_look_165 fl_RX5_162 sh_5 rfl hk_5 ?_
      obtain ⟨g30, h⟩ := am_grd h
      refine am_iaload dX5_look_168 sh_607 hk_607 (am_inbE g30) ?_
      obtain ⟨r32, c31, h⟩ := am_bnd h
      refine am_callSi (as := [.inl (M.1 607 o0a 0 (M.1 5 o0a 0 21).toNatClampNeg)]) dX5_look_169 cs_RX5_178 cb_X5_isDigit rfl rfl (Nat.le_of_ble_eq_true rfl) (c_X5_isDigit c31) ?_
      refine am_if_eq 263 dX5_look_172 rfl (fun b40 => ?_) (fun b40 => ?_)
      · replace h := am_ifT b40 h
        obtain rfl := Option.some.inj h
        exact am_drop [] rfl KX
      · replace h := am_ifF b40 h
        refine am_aload_n dX5_look_175 rfl ?_
        refine am_aload_n dX5_look_176 rfl ?_
        refine am_getI dX5_look_177 fl_RX5_162 sh_5 rfl hk_5 ?_
        refine am_aload_n dX5_look_180 rfl ?_
        refine am_getI dX5_look_181 fl_RX5_165 sh_5 rfl hk_5 ?_
        refine am_isub dX5_look_184 ?_
        refine am_iconst dX5_look_185 ic_2 ?_
        obtain ⟨z33, h34, h⟩ := am_bnd h
        have KK35 : am_W K (d + 1) m_X5_look 214 [(0, .inr (.inr (5, o0a, 0)))] [.inl z33, .inr (.inr (5, o0a, 0))] M post := by
          obtain ⟨M38, eM38, h⟩ := am_letE h
          refine am_putI dX5_look_214 fl_RX5_168 fp_X5_24 sh_5 rfl rfl rfl hk_5 ?_
          refine am_mem eM38 ?_
          refine am_aload_n dX5_look_217 rfl ?_
          refine am_dup dX5_look_218 rfl ?_
          refine am_getI dX5_look_219 fl_RX5_162 sh_5 rfl hk_5 ?_
          refine am_iconst dX5_look_222 ic_1 ?_
          refine am_iadd dX5_look_223 ?_
          obtain ⟨M39, eM39, h⟩ := am_letE h
          refine am_putI dX5_look_224 fl_RX5_162 fp_X5_21 sh_5 rfl rfl rfl hk_5 ?_
          refine am_mem eM39 ?_
          refine am_goto 149 dX5_look_227 rfl ?_
          exact am_drop [0] rfl (ih _ _ h KX)
        clear h
        refine am_icmp_ge 212 dX5_look_186 rfl (fun b37 => ?_) (fun b37 => ?_)
        · replace h34 := am_ifT b37 h34
          refine am_ldc dX5_look_212 kc_RX5_181 ?_
          obtain rfl := Option.some.inj h34
          exact am_drop [0] rfl KK35
        · replace h34 := am_ifF b37 h34
          refine am_aload_n dX5_look_189 rfl ?_
          refine am_getI dX5_look_190 fl_RX5_168 sh_5 rfl hk_5 ?_
          refine am_bipush dX5_look_193 bp_10 ?_
          refine am_imul dX5_look_195 ?_
          refine am_aload_n dX5_look_196 rfl ?_
          refine am_getR (o' := o0a) dX5_look_197 fl_RX5_34 sh_5 rfl rfl hk_5 ?_
          refine am_aload_n dX5_look_200 rfl ?_
          refine am_getI dX5_look_201 fl_RX5_162 sh_5 rfl hk_5 ?_
          obtain ⟨g36, h34⟩ := am_grd h34
          refine am_iaload dX5_look_204 sh_607 hk_607 (am_inbE g36) ?_
          refine am_iadd dX5_look_205 ?_
          refine am_bipush dX5_look_206 bp_48 ?_
          refine am_isub dX5_look_208 ?_
          refine am_goto 214 dX5_look_209 rfl ?_
          obtain rfl := Option.some.inj h34
          exact am_drop [0] rfl KK35
def l_X5_look_90 (o0a : Nat) : Nat → am_M → Option (am_M)
  | 0, _ => none
  | n + 1, M => (if (M.1 5 o0a 0 8) ≤ (M.1 5 o0a 0 21) then some M else if am_inb (M.1 5 o0a 0 21) 250 = true then (f_X5_isLetter M (M.1 607 o0a 0 (M.1 5 o0a 0 21).toNatClampNeg)).bind (fun r49 => (if r49 = 0 then some M else am_let (am_si M 5 o0a 0 21 ((M.1 5 o0a 0 21) + (1 : Int32))) (fun M50 => l_X5_look_90 o0a n M50))) else none)
set_option maxHeartbeats 4000000 in
theorem wl_X5_look_90 {K : am_K} {d : Nat} {post : Option am_V → am_M → Prop} {o0a : Nat} : ∀ (n : Nat) (M : am_M) (x : am_M), l_X5_look_90 o0a n M = some x → am_W K (d + 1) m_X5_look 263 [] [] x post → am_W K (d + 1) m_X5_look 90 [(0, .inr (.inr (5, o0a, 0)))] [] M post := by
  intro n
  induction n with
  | zero => intro M x h KX; cases h
  | succ n ih =>
    intro M x h KX
    rw [l_X5_look_90] at h
    refine am_aload_n dX5_look_90 rfl ?_
    refine am_getI dX5_look_91 fl_RX5_162 sh_5 rfl hk_5 ?_
    refine am_aload_n dX5_look_94 rfl ?_
    refine am_getI dX5_look_95 fl_RX5_159 sh_5 rfl hk_5 ?_
    refine am_icmp_ge 263 dX5_look_98 rfl (fun b52 => ?_) (fun b52 => ?_)
    · replace h := am_ifT b52 h
      obtain rfl := Option.some.inj h
      exact am_drop [] rfl KX
    · replace h := am_ifF b52 h
      refine am_aload_n dX5_look_101 rfl ?_
      refine am_getR (o' := o0a) dX5_look_102 fl_RX5_34 sh_5 rfl rfl hk_5 ?_
      refine am_aload_n dX5_look_105 rfl ?_
      refine am_getI dX5_look_106 fl_RX5_162 sh_5 rfl hk_5 ?_
      obtain ⟨g47, h⟩ := am_grd h
      refine am_iaload dX5_look_109 sh_607 hk_607 (am_inbE g47) ?_
      obtain ⟨r49, c48, h⟩ := am_bnd h
      refine am_callSi (as := [.inl (M.1 607 o0a 0 (M.1 5 o0a 0 21).toNatClampNeg)]) dX5_look_110 cs_RX5_174 cb_X5_isLetter rfl rfl (Nat.le_of_ble_eq_true rfl) (c_X5_isLetter c48) ?_
      refine am_if_eq 263 dX5_look_113 rfl (fun b51 => ?_) (fun b51 => ?_)
      · replace h := am_ifT b51 h
        obtain rfl := Option.some.inj h
        exact am_drop [] rfl KX
      · replace h := am_ifF b51 h
        refine am_aload_n dX5_look_116 rfl ?_
        refine am_dup dX5_look_117 rfl ?_
        refine am_getI dX5_look_118 fl_RX5_162 sh_5 rfl hk_5 ?_
        refine am_iconst dX5_look_121 ic_1 ?_
        refine am_iadd dX5_look_122 ?_
        obtain ⟨M50, eM50, h⟩ := am_letE h
        refine am_putI dX5_look_123 fl_RX5_162 fp_X5_21 sh_5 rfl rfl rfl hk_5 ?_
        refine am_mem eM50 ?_
        refine am_goto 90 dX5_look_126 rfl ?_
        exact am_drop [0] rfl (ih _ _ h KX)
def f_X5_look (M : am_M) (o : Nat) : Option (am_M) :=
  ((if (M.1 5 o 0 8) ≤ (M.1 5 o 0 21) then some M else if am_inb (M.1 5 o 0 21) 250 = true then (if (M.1 607 o 0 (M.1 5 o 0 21).toNatClampNeg) = (32 : Int32) then am_let (am_si M 5 o 0 21 ((M.1 5 o 0 21) + (1 : Int32))) (fun M5 => (l_X5_look_0 o 1000 M5).bind (fun z10 => some z10)) else some M) else none) : Option (am_M)).bind (fun z1 => am_let (am_si z1 5 o 0 23 (z1.1 5 o 0 21)) (fun M15 => am_let (am_si M15 5 o 0 24 (0 : Int32)) (fun M16 => (if (M16.1 5 o 0 21) = (M16.1 5 o 0 8) then am_let (am_si M16 5 o 0 22 (0 : Int32)) (fun M57 => some M57) else if am_inb (M16.1 5 o 0 21) 250 = true then (f_X5_isLetter M16 (M16.1 607 o 0 (M16.1 5 o 0 21).toNatClampNeg)).bind (fun r19 => (if r19 = 0 then if am_inb (M16.1 5 o 0 21) 250 = true then (f_X5_isDigit M16 (M16.1 607 o 0 (M16.1 5 o 0 21).toNatClampNeg)).bind (fun r22 => (if r22 = 0 then if am_inb (M16.1 5 o 0 21) 250 = true then (if (M16.1 607 o 0 (M16.1 5 o 0 21).toNatClampNeg) = (59 : Int32) then am_let (am_si M16 5 o 0 22 (3 : Int32)) (fun M26 => am_let (am_si M26 5 o 0 21 ((M26.1 5 o 0 21) + (1 : Int32))) (fun M27 => some M27)) else am_let (am_si M16 5 o 0 22 (4 : Int32)) (fun M24 => am_let (am_si M24 5 o 0 21 ((M24.1 5 o 0 21) + (1 : Int32))) (fun M25 => some M25))) else none else am_let (am_si M16 5 o 0 22 (2 : Int32)) (fun M29 => (l_X5_look_149 o 1000 M29).bind (fun z42 => some z42)))) else none else am_let (am_si M16 5 o 0 22 (1 : Int32)) (fun M46 => (l_X5_look_90 o 1000 M46).bind (fun z53 => some z53)))) else none))))
set_option maxHeartbeats 4000000 in
theorem w_X5_look {K : am_K} {d : Nat} {post : Option am_V → am_M → Prop} {M : am_M} {o : Nat} {y : am_M} (h : f_X5_look M o = some y) (hp : post none y) : am_W K (d + 1) m_X5_look 0 [(0, .inr (.inr (5, o, 0)))] [] M post := by
  unfold f_X5_look at h
  refine am_aload_n dX5_look_0 rfl ?_
  refine am_getI dX5_look_1 fl_RX5_162 sh_5 rfl hk_5 ?_
  refine am_aload_n dX5_look_4 rfl ?_
  refine am_getI dX5_look_5 fl_RX5_159 sh_5 rfl hk_5 ?_
  obtain ⟨z1, h2, h⟩ := am_bnd h
  have KK3 : am_W K (d + 1) m_X5_look 38 [(0, .inr (.inr (5, o, 0)))] [] z1 post := by
    refine am_aload_n dX5_look_38 rfl ?_
    refine am_aload_n dX5_look_39 rfl ?_
    refine am_getI dX5_look_40 fl_RX5_162 sh_5 rfl hk_5 ?_
    obtain ⟨M15, eM15, h⟩ := am_letE h
    refine am_putI dX5_look_43 fl_RX5_165 fp_X5_23 sh_5 rfl rfl rfl hk_5 ?_
    refine am_mem eM15 ?_
    refine am_aload_n dX5_look_46 rfl ?_
    refine am_iconst dX5_look_47 ic_0 ?_
    obtain ⟨M16, eM16, h⟩ := am_letE h
    refine am_putI dX5_look_48 fl_RX5_168 fp_X5_24 sh_5 rfl rfl rfl hk_5 ?_
    refine am_mem eM16 ?_
    refine am_aload_n dX5_look_51 rfl ?_
    refine am_getI dX5_look_52 fl_RX5_162 sh_5 rfl hk_5 ?_
    refine am_aload_n dX5_look_55 rfl ?_
    refine am_getI dX5_look_56 fl_RX5_159 sh_5 rfl hk_5 ?_
    refine am_icmp_ne 70 dX5_look_59 rfl (fun b58 => ?_) (fun b58 => ?_)
    · replace h := am_ifF b58 h
      refine am_aload_n dX5_look_70 rfl ?_
      refine am_getR (o' := o) dX5_look_71 fl_RX5_34 sh_5 rfl rfl hk_5 ?_
      refine am_aload_n dX5_look_74 rfl ?_
      refine am_getI dX5_look_75 fl_RX5_162 sh_5 rfl hk_5 ?_
      obtain ⟨g17, h⟩ := am_grd h
      refine am_iaload dX5_look_78 sh_607 hk_607 (am_inbE g17) ?_
      obtain ⟨r19, c18, h⟩ := am_bnd h
      refine am_callSi (as := [.inl (M16.1 607 o 0 (M16.1 5 o 0 21).toNatClampNeg)]) dX5_look_79 cs_RX5_174 cb_X5_isLetter rfl rfl (Nat.le_of_ble_eq_true rfl) (c_X5_isLetter c18) ?_
      refine am_if_eq 129 dX5_look_82 rfl (fun b56 => ?_) (fun b56 => ?_)
      · replace h := am_ifT b56 h
        refine am_aload_n dX5_look_129 rfl ?_
        refine am_getR (o' := o) dX5_look_130 fl_RX5_34 sh_5 rfl rfl hk_5 ?_
        refine am_aload_n dX5_look_133 rfl ?_
        refine am_getI dX5_look_134 fl_RX5_162 sh_5 rfl hk_5 ?_
        obtain ⟨g20, h⟩ := am_grd h
        refine am_iaload dX5_look_137 sh_607 hk_607 (am_inbE g20) ?_
        obtain ⟨r22, c21, h⟩ := am_bnd h
        refine am_callSi (as := [.inl (M16.1 607 o 0 (M16.1 5 o 0 21).toNatClampNeg)]) dX5_look_138 cs_RX5_178 cb_X5_isDigit rfl rfl (Nat.le_of_ble_eq_true rfl) (c_X5_isDigit c21) ?_
        refine am_if_eq 230 dX5_look_141 rfl (fun b45 => ?_) (fun b45 => ?_)
        · replace h := am_ifT b45 h
          refine am_aload_n dX5_look_230 rfl ?_
          refine am_aload_n dX5_look_231 rfl ?_
          refine am_getR (o' := o) dX5_look_232 fl_RX5_34 sh_5 rfl rfl hk_5 ?_
          refine am_aload_n dX5_look_235 rfl ?_
          refine am_getI dX5_look_236 fl_RX5_162 sh_5 rfl hk_5 ?_
          obtain ⟨g23, h⟩ := am_grd h
          refine am_iaload dX5_look_239 sh_607 hk_607 (am_inbE g23) ?_
          refine am_bipush dX5_look_240 bp_59 ?_
          refine am_icmp_ne 249 dX5_look_242 rfl (fun b28 => ?_) (fun b28 => ?_)
          · replace h := am_ifF b28 h
            refine am_iconst dX5_look_249 ic_4 ?_
            obtain ⟨M24, eM24, h⟩ := am_letE h
            refine am_putI dX5_look_250 fl_RX5_171 fp_X5_22 sh_5 rfl rfl rfl hk_5 ?_
            refine am_mem eM24 ?_
            refine am_aload_n dX5_look_253 rfl ?_
            refine am_dup dX5_look_254 rfl ?_
            refine am_getI dX5_look_255 fl_RX5_162 sh_5 rfl hk_5 ?_
            refine am_iconst dX5_look_258 ic_1 ?_
            refine am_iadd dX5_look_259 ?_
            obtain ⟨M25, eM25, h⟩ := am_letE h
            refine am_putI dX5_look_260 fl_RX5_162 fp_X5_21 sh_5 rfl rfl rfl hk_5 ?_
            refine am_mem eM25 ?_
            obtain rfl := Option.some.inj h
            exact am_return dX5_look_263 rfl hp
          · replace h := am_ifT b28 h
            refine am_iconst dX5_look_245 ic_3 ?_
            refine am_goto 250 dX5_look_246 rfl ?_
            obtain ⟨M26, eM26, h⟩ := am_letE h
            refine am_putI dX5_look_250 fl_RX5_171 fp_X5_22 sh_5 rfl rfl rfl hk_5 ?_
            refine am_mem eM26 ?_
            refine am_aload_n dX5_look_253 rfl ?_
            refine am_dup dX5_look_254 rfl ?_
            refine am_getI dX5_look_255 fl_RX5_162 sh_5 rfl hk_5 ?_
            refine am_iconst dX5_look_258 ic_1 ?_
            refine am_iadd dX5_look_259 ?_
            obtain ⟨M27, eM27, h⟩ := am_letE h
            refine am_putI dX5_look_260 fl_RX5_162 fp_X5_21 sh_5 rfl rfl rfl hk_5 ?_
            refine am_mem eM27 ?_
            obtain rfl := Option.some.inj h
            exact am_return dX5_look_263 rfl hp
        · replace h := am_ifF b45 h
          refine am_aload_n dX5_look_144 rfl ?_
          refine am_iconst dX5_look_145 ic_2 ?_
          obtain ⟨M29, eM29, h⟩ := am_letE h
          refine am_putI dX5_look_146 fl_RX5_171 fp_X5_22 sh_5 rfl rfl rfl hk_5 ?_
          refine am_mem eM29 ?_
          obtain ⟨z42, h43, h⟩ := am_bnd h
          have KK44 : am_W K (d + 1) m_X5_look 263 [] [] z42 post := by
            obtain rfl := Option.some.inj h
            exact am_return dX5_look_263 rfl hp
          exact am_drop [0] rfl (wl_X5_look_149 _ _ _ h43 KK44)
      · replace h := am_ifF b56 h
        refine am_aload_n dX5_look_85 rfl ?_
        refine am_iconst dX5_look_86 ic_1 ?_
        obtain ⟨M46, eM46, h⟩ := am_letE h
        refine am_putI dX5_look_87 fl_RX5_171 fp_X5_22 sh_5 rfl rfl rfl hk_5 ?_
        refine am_mem eM46 ?_
        obtain ⟨z53, h54, h⟩ := am_bnd h
        have KK55 : am_W K (d + 1) m_X5_look 263 [] [] z53 post := by
          obtain rfl := Option.some.inj h
          exact am_return dX5_look_263 rfl hp
        exact am_drop [0] rfl (wl_X5_look_90 _ _ _ h54 KK55)
    · replace h := am_ifT b58 h
      refine am_aload_n dX5_look_62 rfl ?_
      refine am_iconst dX5_look_63 ic_0 ?_
      obtain ⟨M57, eM57, h⟩ := am_letE h
      refine am_putI dX5_look_64 fl_RX5_171 fp_X5_22 sh_5 rfl rfl rfl hk_5 ?_
      refine am_mem eM57 ?_
      refine am_goto 263 dX5_look_67 rfl ?_
      obtain rfl := Option.some.inj h
      exact am_return dX5_look_263 rfl hp
  clear h
  refine am_icmp_ge 38 dX5_look_8 rfl (fun b14 => ?_) (fun b14 => ?_)
  · replace h2 := am_ifT b14 h2
    obtain rfl := Option.some.inj h2
    exact am_drop [0] rfl KK3
  · replace h2 := am_ifF b14 h2
    refine am_aload_n dX5_look_11 rfl ?_
    refine am_getR (o' := o) dX5_look_12 fl_RX5_34 sh_5 rfl rfl hk_5 ?_
    refine am_aload_n dX5_look_15 rfl ?_
    refine am_getI dX5_look_16 fl_RX5_162 sh_5 rfl hk_5 ?_
    obtain ⟨g4, h2⟩ := am_grd h2
    refine am_iaload dX5_look_19 sh_607 hk_607 (am_inbE g4) ?_
    refine am_bipush dX5_look_20 bp_32 ?_
    refine am_icmp_ne 38 dX5_look_22 rfl (fun b13 => ?_) (fun b13 => ?_)
    · replace h2 := am_ifF b13 h2
      obtain rfl := Option.some.inj h2
      exact am_drop [0] rfl KK3
    · replace h2 := am_ifT b13 h2
      refine am_aload_n dX5_look_25 rfl ?_
      refine am_dup dX5_look_26 rfl ?_
      refine am_getI dX5_look_27 fl_RX5_162 sh_5 rfl hk_5 ?_
      refine am_iconst dX5_look_30 ic_1 ?_
      refine am_iadd dX5_look_31 ?_
      obtain ⟨M5, eM5, h2⟩ := am_letE h2
      refine am_putI dX5_look_32 fl_RX5_162 fp_X5_21 sh_5 rfl rfl rfl hk_5 ?_
      refine am_mem eM5 ?_
      refine am_goto 0 dX5_look_35 rfl ?_
      obtain ⟨z10, h11, h2⟩ := am_bnd h2
      have KK12 : am_W K (d + 1) m_X5_look 38 [(0, .inr (.inr (5, o, 0)))] [] z10 post := by
        obtain rfl := Option.some.inj h2
        exact am_drop [0] rfl KK3
      exact am_drop [0] rfl (wl_X5_look_0 _ _ _ h11 KK12)
theorem c_X5_look {K : am_K} {d : Nat} {M : am_M} {o : Nat} {y : am_M} (h : f_X5_look M o = some y) : am_Met K (d + 1) m_X5_look [.inr (.inr (5, o, 0))] M (fun q N => q = none ∧ N = y) :=
  am_Met_of cb_X5_look (Nat.le_of_ble_eq_true rfl) (w_X5_look h ⟨rfl, rfl⟩)
def f_X5_wrong (M : am_M) (o : Nat) : Option (Int32 × am_M) :=
  am_let (am_si M 5 o 0 25 (M.1 5 o 0 23)) (fun M1 => some ((0 : Int32), M1))
set_option maxHeartbeats 4000000 in
theorem w_X5_wrong {K : am_K} {d : Nat} {post : Option am_V → am_M → Prop} {M : am_M} {o : Nat} {y : Int32 × am_M} (h : f_X5_wrong M o = some y) (hp : post (some (.inl y.1)) y.2) : am_W K d m_X5_wrong 0 [(0, .inr (.inr (5, o, 0)))] [] M post := by
  unfold f_X5_wrong at h
  refine am_aload_n dX5_wrong_0 rfl ?_
  refine am_aload_n dX5_wrong_1 rfl ?_
  refine am_getI dX5_wrong_2 fl_RX5_165 sh_5 rfl hk_5 ?_
  obtain ⟨M1, eM1, h⟩ := am_letE h
  refine am_putI dX5_wrong_5 fl_RX5_182 fp_X5_25 sh_5 rfl rfl rfl hk_5 ?_
  refine am_mem eM1 ?_
  refine am_iconst dX5_wrong_8 ic_0 ?_
  obtain rfl := Option.some.inj h
  exact am_ireturn dX5_wrong_9 rfl (am_narZ (by decide)) hp
theorem c_X5_wrong {K : am_K} {d : Nat} {M : am_M} {o : Nat} {y : Int32 × am_M} (h : f_X5_wrong M o = some y) : am_Met K d m_X5_wrong [.inr (.inr (5, o, 0))] M (fun q N => q = some (.inl y.1) ∧ N = y.2) :=
  am_Met_of cb_X5_wrong (Nat.le_of_ble_eq_true rfl) (w_X5_wrong h ⟨rfl, rfl⟩)
def f_X5_number (M : am_M) (o : Nat) (x1 : Int32) (x2 : Int32) (x3 : Int32) : Option (Int32 × am_M) :=
  (if (M.1 5 o 0 22) = (2 : Int32) then (f_X5_in M ((M.1 5 o 0 24).toInt64) x2.toInt64 x3.toInt64).bind (fun r5 => (if r5 = 0 then (f_X5_wrong M o).bind (fun r11 => if (r11.1 = 0 ∨ r11.1 = 1) then some (r11.1, r11.2) else none) else if am_inb x1 3 = true then am_let (am_si M 626 o 0 x1.toNatClampNeg (M.1 5 o 0 24)) (fun M7 => (f_X5_look M7 o).bind (fun r9 => some ((1 : Int32), r9))) else none)) else (f_X5_wrong M o).bind (fun r2 => if (r2.1 = 0 ∨ r2.1 = 1) then some (r2.1, r2.2) else none))
set_option maxHeartbeats 4000000 in
theorem w_X5_number {K : am_K} {d : Nat} {post : Option am_V → am_M → Prop} {M : am_M} {o : Nat} {x1 : Int32} {x2 : Int32} {x3 : Int32} {y : Int32 × am_M} (h : f_X5_number M o x1 x2 x3 = some y) (hp : post (some (.inl y.1)) y.2) : am_W K (d + 2) m_X5_number 0 [(0, .inr (.inr (5, o, 0))), (1, .inl x1), (2, .inl x2), (3, .inl x3)] [] M post := by
  unfold f_X5_number at h
  refine am_aload_n dX5_number_0 rfl ?_
  refine am_getI dX5_number_1 fl_RX5_171 sh_5 rfl hk_5 ?_
  refine am_iconst dX5_number_4 ic_2 ?_
  refine am_icmp_ne 23 dX5_number_5 rfl (fun b14 => ?_) (fun b14 => ?_)
  · replace h := am_ifF b14 h
    refine am_aload_n dX5_number_23 rfl ?_
    obtain ⟨r2, c1, h⟩ := am_bnd h
    refine am_callVi (as := []) dX5_number_24 cv_RX5_194 cb_X5_wrong sh_5 rfl hk_5 rfl rfl (Nat.le_of_ble_eq_true rfl) (c_X5_wrong c1) ?_
    obtain ⟨g3, h⟩ := am_grd h
    obtain rfl := Option.some.inj h
    exact am_ireturn dX5_number_27 rfl (am_narZ g3) hp
  · replace h := am_ifT b14 h
    refine am_aload_n dX5_number_8 rfl ?_
    refine am_getI dX5_number_9 fl_RX5_168 sh_5 rfl hk_5 ?_
    refine am_i2l dX5_number_12 ?_
    refine am_iload_n dX5_number_13 rfl ?_
    refine am_i2l dX5_number_14 ?_
    refine am_iload_n dX5_number_15 rfl ?_
    refine am_i2l dX5_number_16 ?_
    obtain ⟨r5, c4, h⟩ := am_bnd h
    refine am_callSi (as := [.inr (.inl ((M.1 5 o 0 24).toInt64)), .inr (.inl x2.toInt64), .inr (.inl x3.toInt64)]) dX5_number_17 cs_RX5_95 cb_X5_in rfl rfl (Nat.le_of_ble_eq_true rfl) (c_X5_in c4) ?_
    refine am_if_ne 28 dX5_number_20 rfl (fun b13 => ?_) (fun b13 => ?_)
    · replace h := am_ifF b13 h
      refine am_aload_n dX5_number_28 rfl ?_
      refine am_getR (o' := o) dX5_number_29 fl_RX5_61 sh_5 rfl rfl hk_5 ?_
      refine am_iload_n dX5_number_32 rfl ?_
      refine am_aload_n dX5_number_33 rfl ?_
      refine am_getI dX5_number_34 fl_RX5_168 sh_5 rfl hk_5 ?_
      obtain ⟨g6, h⟩ := am_grd h
      obtain ⟨M7, eM7, h⟩ := am_letE h
      refine am_iastore dX5_number_37 sh_626 hk_626 (am_inbE g6) ?_
      refine am_mem eM7 ?_
      refine am_aload_n dX5_number_38 rfl ?_
      obtain ⟨r9, c8, h⟩ := am_bnd h
      refine am_callVv (as := []) dX5_number_39 cv_RX5_198 cb_X5_look sh_5 rfl hk_5 rfl rfl (Nat.le_of_ble_eq_true rfl) (c_X5_look c8) ?_
      refine am_iconst dX5_number_42 ic_1 ?_
      obtain rfl := Option.some.inj h
      exact am_ireturn dX5_number_43 rfl (am_narZ (by decide)) hp
    · replace h := am_ifT b13 h
      refine am_aload_n dX5_number_23 rfl ?_
      obtain ⟨r11, c10, h⟩ := am_bnd h
      refine am_callVi (as := []) dX5_number_24 cv_RX5_194 cb_X5_wrong sh_5 rfl hk_5 rfl rfl (Nat.le_of_ble_eq_true rfl) (c_X5_wrong c10) ?_
      obtain ⟨g12, h⟩ := am_grd h
      obtain rfl := Option.some.inj h
      exact am_ireturn dX5_number_27 rfl (am_narZ g12) hp
theorem c_X5_number {K : am_K} {d : Nat} {M : am_M} {o : Nat} {x1 : Int32} {x2 : Int32} {x3 : Int32} {y : Int32 × am_M} (h : f_X5_number M o x1 x2 x3 = some y) : am_Met K (d + 2) m_X5_number [.inr (.inr (5, o, 0)), .inl x1, .inl x2, .inl x3] M (fun q N => q = some (.inl y.1) ∧ N = y.2) :=
  am_Met_of cb_X5_number (Nat.le_of_ble_eq_true rfl) (w_X5_number h ⟨rfl, rfl⟩)
def f_X5_tells (M : am_M) (o : Nat) (x1 : Int32) (x2 : Int32) : Option (Int32 × am_M) :=
  (f_X5_look M o).bind (fun r2 => (f_X5_number r2 o (0 : Int32) x1 x2).bind (fun r4 => if (r4.1 = 0 ∨ r4.1 = 1) then some (r4.1, r4.2) else none))
set_option maxHeartbeats 4000000 in
theorem w_X5_tells {K : am_K} {d : Nat} {post : Option am_V → am_M → Prop} {M : am_M} {o : Nat} {x1 : Int32} {x2 : Int32} {y : Int32 × am_M} (h : f_X5_tells M o x1 x2 = some y) (hp : post (some (.inl y.1)) y.2) : am_W K (d + 3) m_X5_tells 0 [(0, .inr (.inr (5, o, 0))), (1, .inl x1), (2, .inl x2)] [] M post := by
  unfold f_X5_tells at h
  refine am_aload_n dX5_tells_0 rfl ?_
  obtain ⟨r2, c1, h⟩ := am_bnd h
  refine am_callVv (as := []) dX5_tells_1 cv_RX5_198 cb_X5_look sh_5 rfl hk_5 rfl rfl (Nat.le_of_ble_eq_true rfl) (c_X5_look c1) ?_
  refine am_aload_n dX5_tells_4 rfl ?_
  refine am_iconst dX5_tells_5 ic_0 ?_
  refine am_iload_n dX5_tells_6 rfl ?_
  refine am_iload_n dX5_tells_7 rfl ?_
  obtain ⟨r4, c3, h⟩ := am_bnd h
  refine am_callVi (as := [.inl (0 : Int32), .inl x1, .inl x2]) dX5_tells_8 cv_RX5_201 cb_X5_number sh_5 rfl hk_5 rfl rfl (Nat.le_of_ble_eq_true rfl) (c_X5_number c3) ?_
  obtain ⟨g5, h⟩ := am_grd h
  obtain rfl := Option.some.inj h
  exact am_ireturn dX5_tells_11 rfl (am_narZ g5) hp
theorem c_X5_tells {K : am_K} {d : Nat} {M : am_M} {o : Nat} {x1 : Int32} {x2 : Int32} {y : Int32 × am_M} (h : f_X5_tells M o x1 x2 = some y) : am_Met K (d + 3) m_X5_tells [.inr (.inr (5, o, 0)), .inl x1, .inl x2] M (fun q N => q = some (.inl y.1) ∧ N = y.2) :=
  am_Met_of cb_X5_tells (Nat.le_of_ble_eq_true rfl) (w_X5_tells h ⟨rfl, rfl⟩)
def f_X5_heapTold (M : am_M) (o : Nat) : Option (Int32 × am_M) :=
  (f_X5_tells M o (0 : Int32) (9 : Int32)).bind (fun r2 => (if r2.1 = 0 then some ((0 : Int32), r2.2) else (f_X5_all r2.2 o).bind (fun r4 => am_let (((24 : Int32) - r4) - (r2.2.1 626 o 0 (0 : Int32).toNatClampNeg)) (fun v5 => ((if (r2.2.1 626 o 0 (0 : Int32).toNatClampNeg) = 0 then some (1 : Int32) else some (0 : Int32)) : Option (Int32)).bind (fun z6 => ((if (9 : Int32) ≤ v5 then some (9 : Int32) else some v5) : Option (Int32)).bind (fun z10 => (f_X5_number r2.2 o (1 : Int32) z6 z10).bind (fun r15 => (if r15.1 = 0 then some ((0 : Int32), r15.2) else (f_X5_addHeap r15.2 o (r15.2.1 626 o 0 (0 : Int32).toNatClampNeg) (r15.2.1 626 o 0 (1 : Int32).toNatClampNeg)).bind (fun r17 => some ((1 : Int32), r17))))))))))
set_option maxHeartbeats 4000000 in
theorem w_X5_heapTold {K : am_K} {d : Nat} {post : Option am_V → am_M → Prop} {M : am_M} {o : Nat} {y : Int32 × am_M} (h : f_X5_heapTold M o = some y) (hp : post (some (.inl y.1)) y.2) : am_W K (d + 4) m_X5_heapTold 0 [(0, .inr (.inr (5, o, 0)))] [] M post := by
  unfold f_X5_heapTold at h
  refine am_aload_n dX5_heapTold_0 rfl ?_
  refine am_iconst dX5_heapTold_1 ic_0 ?_
  refine am_bipush dX5_heapTold_2 bp_9 ?_
  obtain ⟨r2, c1, h⟩ := am_bnd h
  refine am_callVi (as := [.inl (0 : Int32), .inl (9 : Int32)]) dX5_heapTold_4 cv_RX5_205 cb_X5_tells sh_5 rfl hk_5 rfl rfl (Nat.le_of_ble_eq_true rfl) (c_X5_tells c1) ?_
  refine am_if_ne 12 dX5_heapTold_7 rfl (fun b19 => ?_) (fun b19 => ?_)
  · replace h := am_ifF b19 h
    refine am_bipush dX5_heapTold_12 bp_24 ?_
    refine am_aload_n dX5_heapTold_14 rfl ?_
    obtain ⟨r4, c3, h⟩ := am_bnd h
    refine am_callVi (as := []) dX5_heapTold_15 cv_RX5_140 cb_X5_all sh_5 rfl hk_5 rfl rfl (Nat.le_of_ble_eq_true rfl) (c_X5_all c3) ?_
    refine am_isub dX5_heapTold_18 ?_
    refine am_aload_n dX5_heapTold_19 rfl ?_
    refine am_getR (o' := o) dX5_heapTold_20 fl_RX5_61 sh_5 rfl rfl hk_5 ?_
    refine am_iconst dX5_heapTold_23 ic_0 ?_
    refine am_iaload dX5_heapTold_24 sh_626 hk_626 (am_inbE (by decide)) ?_
    refine am_isub dX5_heapTold_25 ?_
    obtain ⟨v5, ev5, h⟩ := am_letE h
    refine am_topI ev5 ?_
    refine am_istore_n (ls' := [(0, .inr (.inr (5, o, 0))), (1, .inl v5)]) dX5_heapTold_26 (Nat.le_of_ble_eq_true rfl) rfl ?_
    refine am_aload_n dX5_heapTold_27 rfl ?_
    refine am_iconst dX5_heapTold_28 ic_1 ?_
    refine am_aload_n dX5_heapTold_29 rfl ?_
    refine am_getR (o' := o) dX5_heapTold_30 fl_RX5_61 sh_5 rfl rfl hk_5 ?_
    refine am_iconst dX5_heapTold_33 ic_0 ?_
    refine am_iaload dX5_heapTold_34 sh_626 hk_626 (am_inbE (by decide)) ?_
    obtain ⟨z6, h7, h⟩ := am_bnd h
    have KK8 : am_W K (d + 4) m_X5_heapTold 43 [(0, .inr (.inr (5, o, 0))), (1, .inl v5)] [.inl z6, .inl (1 : Int32), .inr (.inr (5, o, 0))] r2.2 post := by
      refine am_iload_n dX5_heapTold_43 rfl ?_
      refine am_bipush dX5_heapTold_44 bp_9 ?_
      obtain ⟨z10, h11, h⟩ := am_bnd h
      have KK12 : am_W K (d + 4) m_X5_heapTold 55 [(0, .inr (.inr (5, o, 0)))] [.inl z10, .inl z6, .inl (1 : Int32), .inr (.inr (5, o, 0))] r2.2 post := by
        obtain ⟨r15, c14, h⟩ := am_bnd h
        refine am_callVi (as := [.inl (1 : Int32), .inl z6, .inl z10]) dX5_heapTold_55 cv_RX5_201 cb_X5_number sh_5 rfl hk_5 rfl rfl (Nat.le_of_ble_eq_true rfl) (c_X5_number c14) ?_
        refine am_if_ne 63 dX5_heapTold_58 rfl (fun b18 => ?_) (fun b18 => ?_)
        · replace h := am_ifF b18 h
          refine am_aload_n dX5_heapTold_63 rfl ?_
          refine am_aload_n dX5_heapTold_64 rfl ?_
          refine am_getR (o' := o) dX5_heapTold_65 fl_RX5_61 sh_5 rfl rfl hk_5 ?_
          refine am_iconst dX5_heapTold_68 ic_0 ?_
          refine am_iaload dX5_heapTold_69 sh_626 hk_626 (am_inbE (by decide)) ?_
          refine am_aload_n dX5_heapTold_70 rfl ?_
          refine am_getR (o' := o) dX5_heapTold_71 fl_RX5_61 sh_5 rfl rfl hk_5 ?_
          refine am_iconst dX5_heapTold_74 ic_1 ?_
          refine am_iaload dX5_heapTold_75 sh_626 hk_626 (am_inbE (by decide)) ?_
          obtain ⟨r17, c16, h⟩ := am_bnd h
          refine am_callVv (as := [.inl (r15.2.1 626 o 0 (0 : Int32).toNatClampNeg), .inl (r15.2.1 626 o 0 (1 : Int32).toNatClampNeg)]) dX5_heapTold_76 cv_RX5_143 cb_X5_addHeap sh_5 rfl hk_5 rfl rfl (Nat.le_of_ble_eq_true rfl) (c_X5_addHeap c16) ?_
          refine am_iconst dX5_heapTold_79 ic_1 ?_
          obtain rfl := Option.some.inj h
          exact am_ireturn dX5_heapTold_80 rfl (am_narZ (by decide)) hp
        · replace h := am_ifT b18 h
          refine am_iconst dX5_heapTold_61 ic_0 ?_
          obtain rfl := Option.some.inj h
          exact am_ireturn dX5_heapTold_62 rfl (am_narZ (by decide)) hp
      clear h
      refine am_icmp_ge 53 dX5_heapTold_46 rfl (fun b13 => ?_) (fun b13 => ?_)
      · replace h11 := am_ifT b13 h11
        refine am_bipush dX5_heapTold_53 bp_9 ?_
        obtain rfl := Option.some.inj h11
        exact am_drop [0] rfl KK12
      · replace h11 := am_ifF b13 h11
        refine am_iload_n dX5_heapTold_49 rfl ?_
        refine am_goto 55 dX5_heapTold_50 rfl ?_
        obtain rfl := Option.some.inj h11
        exact am_drop [0] rfl KK12
    clear h
    refine am_if_ne 42 dX5_heapTold_35 rfl (fun b9 => ?_) (fun b9 => ?_)
    · replace h7 := am_ifF b9 h7
      refine am_iconst dX5_heapTold_42 ic_0 ?_
      obtain rfl := Option.some.inj h7
      exact am_drop [0, 1] rfl KK8
    · replace h7 := am_ifT b9 h7
      refine am_iconst dX5_heapTold_38 ic_1 ?_
      refine am_goto 43 dX5_heapTold_39 rfl ?_
      obtain rfl := Option.some.inj h7
      exact am_drop [0, 1] rfl KK8
  · replace h := am_ifT b19 h
    refine am_iconst dX5_heapTold_10 ic_0 ?_
    obtain rfl := Option.some.inj h
    exact am_ireturn dX5_heapTold_11 rfl (am_narZ (by decide)) hp
theorem c_X5_heapTold {K : am_K} {d : Nat} {M : am_M} {o : Nat} {y : Int32 × am_M} (h : f_X5_heapTold M o = some y) : am_Met K (d + 4) m_X5_heapTold [.inr (.inr (5, o, 0))] M (fun q N => q = some (.inl y.1) ∧ N = y.2) :=
  am_Met_of cb_X5_heapTold (Nat.le_of_ble_eq_true rfl) (w_X5_heapTold h ⟨rfl, rfl⟩)
def l_X5_heapAt_4 (M : am_M) (o0a : Nat) : Nat → Int32 → Int32 → Option (Int32)
  | 0, _, _ => none
  | n + 1, a2, a3 => (if (M.1 5 o0a 0 10) ≤ a3 then some (-1 : Int32) else if am_inb a3 4 = true then if am_inb (M.1 613 o0a 0 a3.toNatClampNeg) 4 = true then if am_inb a3 4 = true then if am_inb (M.1 613 o0a 0 a3.toNatClampNeg) 4 = true then am_let ((M.1 611 o0a 0 (M.1 613 o0a 0 a3.toNatClampNeg).toNatClampNeg) + (M.1 612 o0a 0 (M.1 613 o0a 0 a3.toNatClampNeg).toNatClampNeg)) (fun v5 => (if v5 ≤ a2 then am_let (a2 - v5) (fun v6 => am_let (a3 + (1 : Int32)) (fun v7 => l_X5_heapAt_4 M o0a n v6 v7)) else if am_inb a3 4 = true then some (M.1 613 o0a 0 a3.toNatClampNeg) else none)) else none else none else none else none)
set_option maxHeartbeats 4000000 in
theorem wl_X5_heapAt_4 {K : am_K} {d : Nat} {post : Option am_V → am_M → Prop} {M : am_M} {o0a : Nat} : ∀ (n : Nat) (a2 : Int32) (a3 : Int32) (y : Int32), l_X5_heapAt_4 M o0a n a2 a3 = some y → post (some (.inl y)) M → am_W K d m_X5_heapAt 4 [(0, .inr (.inr (5, o0a, 0))), (2, .inl a2), (3, .inl a3)] [] M post := by
  intro n
  induction n with
  | zero => intro a2 a3 y h hp; cases h
  | succ n ih =>
    intro a2 a3 y h hp
    rw [l_X5_heapAt_4] at h
    refine am_iload_n dX5_heapAt_4 rfl ?_
    refine am_aload_n dX5_heapAt_5 rfl ?_
    refine am_getI dX5_heapAt_6 fl_RX5_130 sh_5 rfl hk_5 ?_
    refine am_icmp_ge 61 dX5_heapAt_9 rfl (fun b10 => ?_) (fun b10 => ?_)
    · replace h := am_ifT b10 h
      refine am_iconst dX5_heapAt_61 ic_m1 ?_
      obtain rfl := Option.some.inj h
      exact am_ireturn dX5_heapAt_62 rfl rfl hp
    · replace h := am_ifF b10 h
      refine am_aload_n dX5_heapAt_12 rfl ?_
      refine am_getR (o' := o0a) dX5_heapAt_13 fl_RX5_40 sh_5 rfl rfl hk_5 ?_
      refine am_aload_n dX5_heapAt_16 rfl ?_
      refine am_getR (o' := o0a) dX5_heapAt_17 fl_RX5_46 sh_5 rfl rfl hk_5 ?_
      refine am_iload_n dX5_heapAt_20 rfl ?_
      obtain ⟨g1, h⟩ := am_grd h
      refine am_iaload dX5_heapAt_21 sh_613 hk_613 (am_inbE g1) ?_
      obtain ⟨g2, h⟩ := am_grd h
      refine am_iaload dX5_heapAt_22 sh_611 hk_611 (am_inbE g2) ?_
      refine am_aload_n dX5_heapAt_23 rfl ?_
      refine am_getR (o' := o0a) dX5_heapAt_24 fl_RX5_43 sh_5 rfl rfl hk_5 ?_
      refine am_aload_n dX5_heapAt_27 rfl ?_
      refine am_getR (o' := o0a) dX5_heapAt_28 fl_RX5_46 sh_5 rfl rfl hk_5 ?_
      refine am_iload_n dX5_heapAt_31 rfl ?_
      obtain ⟨g3, h⟩ := am_grd h
      refine am_iaload dX5_heapAt_32 sh_613 hk_613 (am_inbE g3) ?_
      obtain ⟨g4, h⟩ := am_grd h
      refine am_iaload dX5_heapAt_33 sh_612 hk_612 (am_inbE g4) ?_
      refine am_iadd dX5_heapAt_34 ?_
      obtain ⟨v5, ev5, h⟩ := am_letE h
      refine am_topI ev5 ?_
      refine am_istore (ls' := [(0, .inr (.inr (5, o0a, 0))), (2, .inl a2), (3, .inl a3), (4, .inl v5)]) dX5_heapAt_35 (Nat.le_of_ble_eq_true rfl) rfl ?_
      refine am_iload_n dX5_heapAt_37 rfl ?_
      refine am_iload dX5_heapAt_38 rfl ?_
      refine am_icmp_ge 50 dX5_heapAt_40 rfl (fun b9 => ?_) (fun b9 => ?_)
      · replace h := am_ifT b9 h
        refine am_iload_n dX5_heapAt_50 rfl ?_
        refine am_iload dX5_heapAt_51 rfl ?_
        refine am_isub dX5_heapAt_53 ?_
        obtain ⟨v6, ev6, h⟩ := am_letE h
        refine am_topI ev6 ?_
        refine am_istore_n (ls' := [(0, .inr (.inr (5, o0a, 0))), (2, .inl v6), (3, .inl a3), (4, .inl v5)]) dX5_heapAt_54 (Nat.le_of_ble_eq_true rfl) rfl ?_
        obtain ⟨v7, ev7, h⟩ := am_letE h
        refine am_iinc (ls' := [(0, .inr (.inr (5, o0a, 0))), (2, .inl v6), (3, .inl v7), (4, .inl v5)]) dX5_heapAt_55 rfl ((congrArg (fun z => a3 + z) ic_1).trans ev7.symm) (Nat.le_of_ble_eq_true rfl) rfl ?_
        refine am_goto 4 dX5_heapAt_58 rfl ?_
        exact am_drop [0, 2, 3] rfl (ih _ _ _ h hp)
      · replace h := am_ifF b9 h
        refine am_aload_n dX5_heapAt_43 rfl ?_
        refine am_getR (o' := o0a) dX5_heapAt_44 fl_RX5_46 sh_5 rfl rfl hk_5 ?_
        refine am_iload_n dX5_heapAt_47 rfl ?_
        obtain ⟨g8, h⟩ := am_grd h
        refine am_iaload dX5_heapAt_48 sh_613 hk_613 (am_inbE g8) ?_
        obtain rfl := Option.some.inj h
        exact am_ireturn dX5_heapAt_49 rfl rfl hp
def f_X5_heapAt (M : am_M) (o : Nat) (x1 : Int32) : Option (Int32) :=
  l_X5_heapAt_4 M o 1000 x1 (0 : Int32)
set_option maxHeartbeats 4000000 in
theorem w_X5_heapAt {K : am_K} {d : Nat} {post : Option am_V → am_M → Prop} {M : am_M} {o : Nat} {x1 : Int32} {y : Int32} (h : f_X5_heapAt M o x1 = some y) (hp : post (some (.inl y)) M) : am_W K d m_X5_heapAt 0 [(0, .inr (.inr (5, o, 0))), (1, .inl x1)] [] M post := by
  unfold f_X5_heapAt at h
  refine am_iload_n dX5_heapAt_0 rfl ?_
  refine am_istore_n (ls' := [(0, .inr (.inr (5, o, 0))), (1, .inl x1), (2, .inl x1)]) dX5_heapAt_1 (Nat.le_of_ble_eq_true rfl) rfl ?_
  refine am_iconst dX5_heapAt_2 ic_0 ?_
  refine am_istore_n (ls' := [(0, .inr (.inr (5, o, 0))), (1, .inl x1), (2, .inl x1), (3, .inl (0 : Int32))]) dX5_heapAt_3 (Nat.le_of_ble_eq_true rfl) rfl ?_
  exact am_drop [0, 2, 3] rfl (wl_X5_heapAt_4 _ _ _ _ h hp)
theorem c_X5_heapAt {K : am_K} {d : Nat} {M : am_M} {o : Nat} {x1 : Int32} {y : Int32} (h : f_X5_heapAt M o x1 = some y) : am_Met K d m_X5_heapAt [.inr (.inr (5, o, 0)), .inl x1] M (fun q N => q = some (.inl y) ∧ N = M) :=
  am_Met_of cb_X5_heapAt (Nat.le_of_ble_eq_true rfl) (w_X5_heapAt h ⟨rfl, rfl⟩)
def l_X5_startOf_4 (M : am_M) (o0a : Nat) (a1 : Int32) : Nat → Int32 → Int32 → Option (Int32)
  | 0, _, _ => none
  | n + 1, a2, a3 => if am_inb a3 4 = true then (if (M.1 613 o0a 0 a3.toNatClampNeg) = a1 then some a2 else if am_inb a3 4 = true then if am_inb (M.1 613 o0a 0 a3.toNatClampNeg) 4 = true then if am_inb a3 4 = true then if am_inb (M.1 613 o0a 0 a3.toNatClampNeg) 4 = true then am_let (a2 + ((M.1 611 o0a 0 (M.1 613 o0a 0 a3.toNatClampNeg).toNatClampNeg) + (M.1 612 o0a 0 (M.1 613 o0a 0 a3.toNatClampNeg).toNatClampNeg))) (fun v6 => am_let (a3 + (1 : Int32)) (fun v7 => l_X5_startOf_4 M o0a a1 n v6 v7)) else none else none else none else none) else none
set_option maxHeartbeats 4000000 in
theorem wl_X5_startOf_4 {K : am_K} {d : Nat} {post : Option am_V → am_M → Prop} {M : am_M} {o0a : Nat} {a1 : Int32} : ∀ (n : Nat) (a2 : Int32) (a3 : Int32) (x : Int32), l_X5_startOf_4 M o0a a1 n a2 a3 = some x → am_W K d m_X5_startOf 46 [(2, .inl x)] [] M post → am_W K d m_X5_startOf 4 [(0, .inr (.inr (5, o0a, 0))), (1, .inl a1), (2, .inl a2), (3, .inl a3)] [] M post := by
  intro n
  induction n with
  | zero => intro a2 a3 x h KX; cases h
  | succ n ih =>
    intro a2 a3 x h KX
    rw [l_X5_startOf_4] at h
    refine am_aload_n dX5_startOf_4 rfl ?_
    refine am_getR (o' := o0a) dX5_startOf_5 fl_RX5_46 sh_5 rfl rfl hk_5 ?_
    refine am_iload_n dX5_startOf_8 rfl ?_
    obtain ⟨g1, h⟩ := am_grd h
    refine am_iaload dX5_startOf_9 sh_613 hk_613 (am_inbE g1) ?_
    refine am_iload_n dX5_startOf_10 rfl ?_
    refine am_icmp_eq 46 dX5_startOf_11 rfl (fun b8 => ?_) (fun b8 => ?_)
    · replace h := am_ifT b8 h
      obtain rfl := Option.some.inj h
      exact am_drop [2] rfl KX
    · replace h := am_ifF b8 h
      refine am_iload_n dX5_startOf_14 rfl ?_
      refine am_aload_n dX5_startOf_15 rfl ?_
      refine am_getR (o' := o0a) dX5_startOf_16 fl_RX5_40 sh_5 rfl rfl hk_5 ?_
      refine am_aload_n dX5_startOf_19 rfl ?_
      refine am_getR (o' := o0a) dX5_startOf_20 fl_RX5_46 sh_5 rfl rfl hk_5 ?_
      refine am_iload_n dX5_startOf_23 rfl ?_
      obtain ⟨g2, h⟩ := am_grd h
      refine am_iaload dX5_startOf_24 sh_613 hk_613 (am_inbE g2) ?_
      obtain ⟨g3, h⟩ := am_grd h
      refine am_iaload dX5_startOf_25 sh_611 hk_611 (am_inbE g3) ?_
      refine am_aload_n dX5_startOf_26 rfl ?_
      refine am_getR (o' := o0a) dX5_startOf_27 fl_RX5_43 sh_5 rfl rfl hk_5 ?_
      refine am_aload_n dX5_startOf_30 rfl ?_
      refine am_getR (o' := o0a) dX5_startOf_31 fl_RX5_46 sh_5 rfl rfl hk_5 ?_
      refine am_iload_n dX5_startOf_34 rfl ?_
      obtain ⟨g4, h⟩ := am_grd h
      refine am_iaload dX5_startOf_35 sh_613 hk_613 (am_inbE g4) ?_
      obtain ⟨g5, h⟩ := am_grd h
      refine am_iaload dX5_startOf_36 sh_612 hk_612 (am_inbE g5) ?_
      refine am_iadd dX5_startOf_37 ?_
      refine am_iadd dX5_startOf_38 ?_
      obtain ⟨v6, ev6, h⟩ := am_letE h
      refine am_topI ev6 ?_
      refine am_istore_n (ls' := [(0, .inr (.inr (5, o0a, 0))), (1, .inl a1), (2, .inl v6), (3, .inl a3)]) dX5_startOf_39 (Nat.le_of_ble_eq_true rfl) rfl ?_
      obtain ⟨v7, ev7, h⟩ := am_letE h
      refine am_iinc (ls' := [(0, .inr (.inr (5, o0a, 0))), (1, .inl a1), (2, .inl v6), (3, .inl v7)]) dX5_startOf_40 rfl ((congrArg (fun z => a3 + z) ic_1).trans ev7.symm) (Nat.le_of_ble_eq_true rfl) rfl ?_
      refine am_goto 4 dX5_startOf_43 rfl ?_
      exact am_drop [0, 1, 2, 3] rfl (ih _ _ _ h KX)
def f_X5_startOf (M : am_M) (o : Nat) (x1 : Int32) : Option (Int32) :=
  (l_X5_startOf_4 M o x1 1000 (0 : Int32) (0 : Int32)).bind (fun z9 => some z9)
set_option maxHeartbeats 4000000 in
theorem w_X5_startOf {K : am_K} {d : Nat} {post : Option am_V → am_M → Prop} {M : am_M} {o : Nat} {x1 : Int32} {y : Int32} (h : f_X5_startOf M o x1 = some y) (hp : post (some (.inl y)) M) : am_W K d m_X5_startOf 0 [(0, .inr (.inr (5, o, 0))), (1, .inl x1)] [] M post := by
  unfold f_X5_startOf at h
  refine am_iconst dX5_startOf_0 ic_0 ?_
  refine am_istore_n (ls' := [(0, .inr (.inr (5, o, 0))), (1, .inl x1), (2, .inl (0 : Int32))]) dX5_startOf_1 (Nat.le_of_ble_eq_true rfl) rfl ?_
  refine am_iconst dX5_startOf_2 ic_0 ?_
  refine am_istore_n (ls' := [(0, .inr (.inr (5, o, 0))), (1, .inl x1), (2, .inl (0 : Int32)), (3, .inl (0 : Int32))]) dX5_startOf_3 (Nat.le_of_ble_eq_true rfl) rfl ?_
  obtain ⟨z9, h10, h⟩ := am_bnd h
  have KK11 : am_W K d m_X5_startOf 46 [(2, .inl z9)] [] M post := by
    refine am_iload_n dX5_startOf_46 rfl ?_
    obtain rfl := Option.some.inj h
    exact am_ireturn dX5_startOf_47 rfl rfl hp
  exact am_drop [0, 1, 2, 3] rfl (wl_X5_startOf_4 _ _ _ _ h10 KK11)
theorem c_X5_startOf {K : am_K} {d : Nat} {M : am_M} {o : Nat} {x1 : Int32} {y : Int32} (h : f_X5_startOf M o x1 = some y) : am_Met K d m_X5_startOf [.inr (.inr (5, o, 0)), .inl x1] M (fun q N => q = some (.inl y) ∧ N = M) :=
  am_Met_of cb_X5_startOf (Nat.le_of_ble_eq_true rfl) (w_X5_startOf h ⟨rfl, rfl⟩)
def l_X5_leftNow_18 (M : am_M) (o0a : Nat) (a1 : Int32) (a2 : Int32) : Nat → Int32 → Int32 → Option (Int32)
  | 0, _, _ => none
  | n + 1, a3, a4 => (if (M.1 5 o0a 0 16) ≤ a4 then some a3 else if am_inb a4 24 = true then ((if (M.1 617 o0a 0 a4.toNatClampNeg) = (1 : Int32) then some (1 : Int32) else some (0 : Int32)) : Option (Int32)).bind (fun z6 => ((if z6 = a1 then some (1 : Int32) else some (0 : Int32)) : Option (Int32)).bind (fun z10 => am_let (a3 + z10) (fun v14 => am_let (a4 + (1 : Int32)) (fun v15 => l_X5_leftNow_18 M o0a a1 a2 n v14 v15)))) else none)
set_option maxHeartbeats 4000000 in
theorem wl_X5_leftNow_18 {K : am_K} {d : Nat} {post : Option am_V → am_M → Prop} {M : am_M} {o0a : Nat} {a1 : Int32} {a2 : Int32} : ∀ (n : Nat) (a3 : Int32) (a4 : Int32) (x : Int32), l_X5_leftNow_18 M o0a a1 a2 n a3 a4 = some x → am_W K (d + 1) m_X5_leftNow 61 [(0, .inr (.inr (5, o0a, 0))), (1, .inl a1), (2, .inl a2), (3, .inl x)] [] M post → am_W K (d + 1) m_X5_leftNow 18 [(0, .inr (.inr (5, o0a, 0))), (1, .inl a1), (2, .inl a2), (3, .inl a3), (4, .inl a4)] [] M post := by
  intro n
  induction n with
  | zero => intro a3 a4 x h KX; cases h
  | succ n ih =>
    intro a3 a4 x h KX
    rw [l_X5_leftNow_18] at h
    refine am_iload dX5_leftNow_18 rfl ?_
    refine am_aload_n dX5_leftNow_20 rfl ?_
    refine am_getI dX5_leftNow_21 fl_RX5_137 sh_5 rfl hk_5 ?_
    refine am_icmp_ge 61 dX5_leftNow_24 rfl (fun b16 => ?_) (fun b16 => ?_)
    · replace h := am_ifT b16 h
      obtain rfl := Option.some.inj h
      exact am_drop [0, 1, 2, 3] rfl KX
    · replace h := am_ifF b16 h
      refine am_iload_n dX5_leftNow_27 rfl ?_
      refine am_aload_n dX5_leftNow_28 rfl ?_
      refine am_getR (o' := o0a) dX5_leftNow_29 fl_RX5_54 sh_5 rfl rfl hk_5 ?_
      refine am_iload dX5_leftNow_32 rfl ?_
      obtain ⟨g5, h⟩ := am_grd h
      refine am_iaload dX5_leftNow_34 sh_617 hk_617 (am_inbE g5) ?_
      refine am_iconst dX5_leftNow_35 ic_1 ?_
      obtain ⟨z6, h7, h⟩ := am_bnd h
      have KK8 : am_W K (d + 1) m_X5_leftNow 44 [(0, .inr (.inr (5, o0a, 0))), (1, .inl a1), (2, .inl a2), (4, .inl a4)] [.inl z6, .inl a3] M post := by
        refine am_iload_n dX5_leftNow_44 rfl ?_
        obtain ⟨z10, h11, h⟩ := am_bnd h
        have KK12 : am_W K (d + 1) m_X5_leftNow 53 [(0, .inr (.inr (5, o0a, 0))), (1, .inl a1), (2, .inl a2), (4, .inl a4)] [.inl z10, .inl a3] M post := by
          refine am_iadd dX5_leftNow_53 ?_
          obtain ⟨v14, ev14, h⟩ := am_letE h
          refine am_topI ev14 ?_
          refine am_istore_n (ls' := [(0, .inr (.inr (5, o0a, 0))), (1, .inl a1), (2, .inl a2), (3, .inl v14), (4, .inl a4)]) dX5_leftNow_54 (Nat.le_of_ble_eq_true rfl) rfl ?_
          obtain ⟨v15, ev15, h⟩ := am_letE h
          refine am_iinc (ls' := [(0, .inr (.inr (5, o0a, 0))), (1, .inl a1), (2, .inl a2), (3, .inl v14), (4, .inl v15)]) dX5_leftNow_55 rfl ((congrArg (fun z => a4 + z) ic_1).trans ev15.symm) (Nat.le_of_ble_eq_true rfl) rfl ?_
          refine am_goto 18 dX5_leftNow_58 rfl ?_
          exact am_drop [0, 1, 2, 3, 4] rfl (ih _ _ _ h KX)
        clear h
        refine am_icmp_ne 52 dX5_leftNow_45 rfl (fun b13 => ?_) (fun b13 => ?_)
        · replace h11 := am_ifF b13 h11
          refine am_iconst dX5_leftNow_52 ic_0 ?_
          obtain rfl := Option.some.inj h11
          exact am_drop [0, 1, 2, 4] rfl KK12
        · replace h11 := am_ifT b13 h11
          refine am_iconst dX5_leftNow_48 ic_1 ?_
          refine am_goto 53 dX5_leftNow_49 rfl ?_
          obtain rfl := Option.some.inj h11
          exact am_drop [0, 1, 2, 4] rfl KK12
      clear h
      refine am_icmp_ne 43 dX5_leftNow_36 rfl (fun b9 => ?_) (fun b9 => ?_)
      · replace h7 := am_ifF b9 h7
        refine am_iconst dX5_leftNow_43 ic_0 ?_
        obtain rfl := Option.some.inj h7
        exact am_drop [0, 1, 2, 4] rfl KK8
      · replace h7 := am_ifT b9 h7
        refine am_iconst dX5_leftNow_39 ic_1 ?_
        refine am_goto 44 dX5_leftNow_40 rfl ?_
        obtain rfl := Option.some.inj h7
        exact am_drop [0, 1, 2, 4] rfl KK8
def f_X5_leftNow (M : am_M) (o : Nat) (x1 : Int32) : Option (Int32) :=
  (f_X5_heapAt M o (M.1 5 o 0 16)).bind (fun r2 => (f_X5_startOf M o r2).bind (fun r4 => (l_X5_leftNow_18 M o x1 r2 1000 (0 : Int32) r4).bind (fun z17 => (if x1 = 0 then if am_inb r2 4 = true then some ((M.1 612 o 0 r2.toNatClampNeg) - z17) else none else if am_inb r2 4 = true then some ((M.1 611 o 0 r2.toNatClampNeg) - z17) else none))))
set_option maxHeartbeats 4000000 in
theorem w_X5_leftNow {K : am_K} {d : Nat} {post : Option am_V → am_M → Prop} {M : am_M} {o : Nat} {x1 : Int32} {y : Int32} (h : f_X5_leftNow M o x1 = some y) (hp : post (some (.inl y)) M) : am_W K (d + 1) m_X5_leftNow 0 [(0, .inr (.inr (5, o, 0))), (1, .inl x1)] [] M post := by
  unfold f_X5_leftNow at h
  refine am_aload_n dX5_leftNow_0 rfl ?_
  refine am_aload_n dX5_leftNow_1 rfl ?_
  refine am_getI dX5_leftNow_2 fl_RX5_137 sh_5 rfl hk_5 ?_
  obtain ⟨r2, c1, h⟩ := am_bnd h
  refine am_callVi (as := [.inl (M.1 5 o 0 16)]) dX5_leftNow_5 cv_RX5_283 cb_X5_heapAt sh_5 rfl hk_5 rfl rfl (Nat.le_of_ble_eq_true rfl) (c_X5_heapAt c1) ?_
  refine am_istore_n (ls' := [(0, .inr (.inr (5, o, 0))), (1, .inl x1), (2, .inl r2)]) dX5_leftNow_8 (Nat.le_of_ble_eq_true rfl) rfl ?_
  refine am_iconst dX5_leftNow_9 ic_0 ?_
  refine am_istore_n (ls' := [(0, .inr (.inr (5, o, 0))), (1, .inl x1), (2, .inl r2), (3, .inl (0 : Int32))]) dX5_leftNow_10 (Nat.le_of_ble_eq_true rfl) rfl ?_
  refine am_aload_n dX5_leftNow_11 rfl ?_
  refine am_iload_n dX5_leftNow_12 rfl ?_
  obtain ⟨r4, c3, h⟩ := am_bnd h
  refine am_callVi (as := [.inl r2]) dX5_leftNow_13 cv_RX5_286 cb_X5_startOf sh_5 rfl hk_5 rfl rfl (Nat.le_of_ble_eq_true rfl) (c_X5_startOf c3) ?_
  refine am_istore (ls' := [(0, .inr (.inr (5, o, 0))), (1, .inl x1), (2, .inl r2), (3, .inl (0 : Int32)), (4, .inl r4)]) dX5_leftNow_16 (Nat.le_of_ble_eq_true rfl) rfl ?_
  obtain ⟨z17, h18, h⟩ := am_bnd h
  have KK19 : am_W K (d + 1) m_X5_leftNow 61 [(0, .inr (.inr (5, o, 0))), (1, .inl x1), (2, .inl r2), (3, .inl z17)] [] M post := by
    refine am_iload_n dX5_leftNow_61 rfl ?_
    refine am_if_eq 74 dX5_leftNow_62 rfl (fun b22 => ?_) (fun b22 => ?_)
    · replace h := am_ifT b22 h
      refine am_aload_n dX5_leftNow_74 rfl ?_
      refine am_getR (o' := o) dX5_leftNow_75 fl_RX5_43 sh_5 rfl rfl hk_5 ?_
      refine am_iload_n dX5_leftNow_78 rfl ?_
      obtain ⟨g20, h⟩ := am_grd h
      refine am_iaload dX5_leftNow_79 sh_612 hk_612 (am_inbE g20) ?_
      refine am_iload_n dX5_leftNow_80 rfl ?_
      refine am_isub dX5_leftNow_81 ?_
      obtain rfl := Option.some.inj h
      exact am_ireturn dX5_leftNow_82 rfl rfl hp
    · replace h := am_ifF b22 h
      refine am_aload_n dX5_leftNow_65 rfl ?_
      refine am_getR (o' := o) dX5_leftNow_66 fl_RX5_40 sh_5 rfl rfl hk_5 ?_
      refine am_iload_n dX5_leftNow_69 rfl ?_
      obtain ⟨g21, h⟩ := am_grd h
      refine am_iaload dX5_leftNow_70 sh_611 hk_611 (am_inbE g21) ?_
      refine am_goto 80 dX5_leftNow_71 rfl ?_
      refine am_iload_n dX5_leftNow_80 rfl ?_
      refine am_isub dX5_leftNow_81 ?_
      obtain rfl := Option.some.inj h
      exact am_ireturn dX5_leftNow_82 rfl rfl hp
  exact am_drop [0, 1, 2, 3, 4] rfl (wl_X5_leftNow_18 _ _ _ _ h18 KK19)
theorem c_X5_leftNow {K : am_K} {d : Nat} {M : am_M} {o : Nat} {x1 : Int32} {y : Int32} (h : f_X5_leftNow M o x1 = some y) : am_Met K (d + 1) m_X5_leftNow [.inr (.inr (5, o, 0)), .inl x1] M (fun q N => q = some (.inl y) ∧ N = M) :=
  am_Met_of cb_X5_leftNow (Nat.le_of_ble_eq_true rfl) (w_X5_leftNow h ⟨rfl, rfl⟩)
def f_X5_isThere (M : am_M) (o : Nat) (x1 : Int32) : Option (Int32) :=
  (f_X5_all M o).bind (fun r2 => (if r2 ≤ (M.1 5 o 0 16) then some (0 : Int32) else (f_X5_leftNow M o x1).bind (fun r4 => (if r4 ≤ 0 then some (0 : Int32) else some (1 : Int32)))))
set_option maxHeartbeats 4000000 in
theorem w_X5_isThere {K : am_K} {d : Nat} {post : Option am_V → am_M → Prop} {M : am_M} {o : Nat} {x1 : Int32} {y : Int32} (h : f_X5_isThere M o x1 = some y) (hp : post (some (.inl y)) M) : am_W K (d + 2) m_X5_isThere 0 [(0, .inr (.inr (5, o, 0))), (1, .inl x1)] [] M post := by
  unfold f_X5_isThere at h
  refine am_aload_n dX5_isThere_0 rfl ?_
  refine am_getI dX5_isThere_1 fl_RX5_137 sh_5 rfl hk_5 ?_
  refine am_aload_n dX5_isThere_4 rfl ?_
  obtain ⟨r2, c1, h⟩ := am_bnd h
  refine am_callVi (as := []) dX5_isThere_5 cv_RX5_140 cb_X5_all sh_5 rfl hk_5 rfl rfl (Nat.le_of_ble_eq_true rfl) (c_X5_all c1) ?_
  refine am_icmp_ge 23 dX5_isThere_8 rfl (fun b6 => ?_) (fun b6 => ?_)
  · replace h := am_ifT b6 h
    refine am_iconst dX5_isThere_23 ic_0 ?_
    obtain rfl := Option.some.inj h
    exact am_ireturn dX5_isThere_24 rfl (am_narZ (by decide)) hp
  · replace h := am_ifF b6 h
    refine am_aload_n dX5_isThere_11 rfl ?_
    refine am_iload_n dX5_isThere_12 rfl ?_
    obtain ⟨r4, c3, h⟩ := am_bnd h
    refine am_callVi (as := [.inl x1]) dX5_isThere_13 cv_RX5_289 cb_X5_leftNow sh_5 rfl hk_5 rfl rfl (Nat.le_of_ble_eq_true rfl) (c_X5_leftNow c3) ?_
    refine am_if_le 23 dX5_isThere_16 rfl (fun b5 => ?_) (fun b5 => ?_)
    · replace h := am_ifT b5 h
      refine am_iconst dX5_isThere_23 ic_0 ?_
      obtain rfl := Option.some.inj h
      exact am_ireturn dX5_isThere_24 rfl (am_narZ (by decide)) hp
    · replace h := am_ifF b5 h
      refine am_iconst dX5_isThere_19 ic_1 ?_
      refine am_goto 24 dX5_isThere_20 rfl ?_
      obtain rfl := Option.some.inj h
      exact am_ireturn dX5_isThere_24 rfl (am_narZ (by decide)) hp
theorem c_X5_isThere {K : am_K} {d : Nat} {M : am_M} {o : Nat} {x1 : Int32} {y : Int32} (h : f_X5_isThere M o x1 = some y) : am_Met K (d + 2) m_X5_isThere [.inr (.inr (5, o, 0)), .inl x1] M (fun q N => q = some (.inl y) ∧ N = M) :=
  am_Met_of cb_X5_isThere (Nat.le_of_ble_eq_true rfl) (w_X5_isThere h ⟨rfl, rfl⟩)
def l_X5_readTold_22 (o0a : Nat) : Nat → Int32 → am_M → Option (Int32 × am_M)
  | 0, _, _ => none
  | n + 1, a1, M => (if (M.1 5 o0a 0 21) ≤ a1 then (f_X5_look M o0a).bind (fun r5 => some ((1 : Int32), r5)) else if am_inb a1 250 = true then ((if (M.1 607 o0a 0 a1.toNatClampNeg) = (97 : Int32) then some (1 : Int32) else some (0 : Int32)) : Option (Int32)).bind (fun z7 => (if z7 = 0 then if am_inb a1 250 = true then (if (M.1 607 o0a 0 a1.toNatClampNeg) = (98 : Int32) then (f_X5_isThere M o0a z7).bind (fun r30 => (if r30 = 0 then (f_X5_wrong M o0a).bind (fun r40 => if (r40.1 = 0 ∨ r40.1 = 1) then some (r40.1, r40.2) else none) else am_let (am_si M 5 o0a 0 16 ((M.1 5 o0a 0 16) + (1 : Int32))) (fun M31 => ((if z7 = 0 then some (0 : Int32) else some (1 : Int32)) : Option (Int32)).bind (fun z32 => if am_inb (M.1 5 o0a 0 16) 24 = true then am_let (am_si M31 617 o0a 0 (M.1 5 o0a 0 16).toNatClampNeg z32) (fun M37 => am_let (a1 + (1 : Int32)) (fun v38 => l_X5_readTold_22 o0a n v38 M37)) else none)))) else (f_X5_wrong M o0a).bind (fun r27 => if (r27.1 = 0 ∨ r27.1 = 1) then some (r27.1, r27.2) else none)) else none else (f_X5_isThere M o0a z7).bind (fun r12 => (if r12 = 0 then (f_X5_wrong M o0a).bind (fun r22 => if (r22.1 = 0 ∨ r22.1 = 1) then some (r22.1, r22.2) else none) else am_let (am_si M 5 o0a 0 16 ((M.1 5 o0a 0 16) + (1 : Int32))) (fun M13 => ((if z7 = 0 then some (0 : Int32) else some (1 : Int32)) : Option (Int32)).bind (fun z14 => if am_inb (M.1 5 o0a 0 16) 24 = true then am_let (am_si M13 617 o0a 0 (M.1 5 o0a 0 16).toNatClampNeg z14) (fun M19 => am_let (a1 + (1 : Int32)) (fun v20 => l_X5_readTold_22 o0a n v20 M19)) else none)))))) else none)
set_option maxHeartbeats 4000000 in
theorem wl_X5_readTold_22 {K : am_K} {d : Nat} {post : Option am_V → am_M → Prop} {o0a : Nat} : ∀ (n : Nat) (a1 : Int32) (M : am_M) (y : Int32 × am_M), l_X5_readTold_22 o0a n a1 M = some y → post (some (.inl y.1)) y.2 → am_W K (d + 3) m_X5_readTold 22 [(0, .inr (.inr (5, o0a, 0))), (1, .inl a1)] [] M post := by
  intro n
  induction n with
  | zero => intro a1 M y h hp; cases h
  | succ n ih =>
    intro a1 M y h hp
    rw [l_X5_readTold_22] at h
    refine am_iload_n dX5_readTold_22 rfl ?_
    refine am_aload_n dX5_readTold_23 rfl ?_
    refine am_getI dX5_readTold_24 fl_RX5_162 sh_5 rfl hk_5 ?_
    refine am_icmp_ge 106 dX5_readTold_27 rfl (fun b45 => ?_) (fun b45 => ?_)
    · replace h := am_ifT b45 h
      refine am_aload_n dX5_readTold_106 rfl ?_
      obtain ⟨r5, c4, h⟩ := am_bnd h
      refine am_callVv (as := []) dX5_readTold_107 cv_RX5_198 cb_X5_look sh_5 rfl hk_5 rfl rfl (Nat.le_of_ble_eq_true rfl) (c_X5_look c4) ?_
      refine am_iconst dX5_readTold_110 ic_1 ?_
      obtain rfl := Option.some.inj h
      exact am_ireturn dX5_readTold_111 rfl (am_narZ (by decide)) hp
    · replace h := am_ifF b45 h
      refine am_aload_n dX5_readTold_30 rfl ?_
      refine am_getR (o' := o0a) dX5_readTold_31 fl_RX5_34 sh_5 rfl rfl hk_5 ?_
      refine am_iload_n dX5_readTold_34 rfl ?_
      obtain ⟨g6, h⟩ := am_grd h
      refine am_iaload dX5_readTold_35 sh_607 hk_607 (am_inbE g6) ?_
      refine am_bipush dX5_readTold_36 bp_97 ?_
      obtain ⟨z7, h8, h⟩ := am_bnd h
      have KK9 : am_W K (d + 3) m_X5_readTold 46 [(0, .inr (.inr (5, o0a, 0))), (1, .inl a1)] [.inl z7] M post := by
        refine am_istore_n (ls' := [(0, .inr (.inr (5, o0a, 0))), (1, .inl a1), (2, .inl z7)]) dX5_readTold_46 (Nat.le_of_ble_eq_true rfl) rfl ?_
        refine am_iload_n dX5_readTold_47 rfl ?_
        refine am_if_ne 62 dX5_readTold_48 rfl (fun b44 => ?_) (fun b44 => ?_)
        · replace h := am_ifF b44 h
          refine am_aload_n dX5_readTold_62 rfl ?_
          refine am_iload_n dX5_readTold_63 rfl ?_
          obtain ⟨r12, c11, h⟩ := am_bnd h
          refine am_callVi (as := [.inl z7]) dX5_readTold_64 cv_RX5_208 cb_X5_isThere sh_5 rfl hk_5 rfl rfl (Nat.le_of_ble_eq_true rfl) (c_X5_isThere c11) ?_
          refine am_if_ne 75 dX5_readTold_67 rfl (fun b24 => ?_) (fun b24 => ?_)
          · replace h := am_ifF b24 h
            refine am_aload_n dX5_readTold_75 rfl ?_
            refine am_getR (o' := o0a) dX5_readTold_76 fl_RX5_54 sh_5 rfl rfl hk_5 ?_
            refine am_aload_n dX5_readTold_79 rfl ?_
            refine am_dup dX5_readTold_80 rfl ?_
            refine am_getI dX5_readTold_81 fl_RX5_137 sh_5 rfl hk_5 ?_
            refine am_dup_x1 dX5_readTold_84 rfl rfl ?_
            refine am_iconst dX5_readTold_85 ic_1 ?_
            refine am_iadd dX5_readTold_86 ?_
            obtain ⟨M13, eM13, h⟩ := am_letE h
            refine am_putI dX5_readTold_87 fl_RX5_137 fp_X5_16 sh_5 rfl rfl rfl hk_5 ?_
            refine am_mem eM13 ?_
            refine am_iload_n dX5_readTold_90 rfl ?_
            obtain ⟨z14, h15, h⟩ := am_bnd h
            have KK16 : am_W K (d + 3) m_X5_readTold 99 [(0, .inr (.inr (5, o0a, 0))), (1, .inl a1)] [.inl z14, .inl (M.1 5 o0a 0 16), .inr (.inr (617, o0a, 0))] M13 post := by
              obtain ⟨g18, h⟩ := am_grd h
              obtain ⟨M19, eM19, h⟩ := am_letE h
              refine am_iastore dX5_readTold_99 sh_617 hk_617 (am_inbE g18) ?_
              refine am_mem eM19 ?_
              obtain ⟨v20, ev20, h⟩ := am_letE h
              refine am_iinc (ls' := [(0, .inr (.inr (5, o0a, 0))), (1, .inl v20)]) dX5_readTold_100 rfl ((congrArg (fun z => a1 + z) ic_1).trans ev20.symm) (Nat.le_of_ble_eq_true rfl) rfl ?_
              refine am_goto 22 dX5_readTold_103 rfl ?_
              exact am_drop [0, 1] rfl (ih _ _ _ h hp)
            clear h
            refine am_if_eq 98 dX5_readTold_91 rfl (fun b17 => ?_) (fun b17 => ?_)
            · replace h15 := am_ifT b17 h15
              refine am_iconst dX5_readTold_98 ic_0 ?_
              obtain rfl := Option.some.inj h15
              exact am_drop [0, 1] rfl KK16
            · replace h15 := am_ifF b17 h15
              refine am_iconst dX5_readTold_94 ic_1 ?_
              refine am_goto 99 dX5_readTold_95 rfl ?_
              obtain rfl := Option.some.inj h15
              exact am_drop [0, 1] rfl KK16
          · replace h := am_ifT b24 h
            refine am_aload_n dX5_readTold_70 rfl ?_
            obtain ⟨r22, c21, h⟩ := am_bnd h
            refine am_callVi (as := []) dX5_readTold_71 cv_RX5_194 cb_X5_wrong sh_5 rfl hk_5 rfl rfl (Nat.le_of_ble_eq_true rfl) (c_X5_wrong c21) ?_
            obtain ⟨g23, h⟩ := am_grd h
            obtain rfl := Option.some.inj h
            exact am_ireturn dX5_readTold_74 rfl (am_narZ g23) hp
        · replace h := am_ifT b44 h
          refine am_aload_n dX5_readTold_51 rfl ?_
          refine am_getR (o' := o0a) dX5_readTold_52 fl_RX5_34 sh_5 rfl rfl hk_5 ?_
          refine am_iload_n dX5_readTold_55 rfl ?_
          obtain ⟨g25, h⟩ := am_grd h
          refine am_iaload dX5_readTold_56 sh_607 hk_607 (am_inbE g25) ?_
          refine am_bipush dX5_readTold_57 bp_98 ?_
          refine am_icmp_ne 70 dX5_readTold_59 rfl (fun b43 => ?_) (fun b43 => ?_)
          · replace h := am_ifF b43 h
            refine am_aload_n dX5_readTold_70 rfl ?_
            obtain ⟨r27, c26, h⟩ := am_bnd h
            refine am_callVi (as := []) dX5_readTold_71 cv_RX5_194 cb_X5_wrong sh_5 rfl hk_5 rfl rfl (Nat.le_of_ble_eq_true rfl) (c_X5_wrong c26) ?_
            obtain ⟨g28, h⟩ := am_grd h
            obtain rfl := Option.some.inj h
            exact am_ireturn dX5_readTold_74 rfl (am_narZ g28) hp
          · replace h := am_ifT b43 h
            refine am_aload_n dX5_readTold_62 rfl ?_
            refine am_iload_n dX5_readTold_63 rfl ?_
            obtain ⟨r30, c29, h⟩ := am_bnd h
            refine am_callVi (as := [.inl z7]) dX5_readTold_64 cv_RX5_208 cb_X5_isThere sh_5 rfl hk_5 rfl rfl (Nat.le_of_ble_eq_true rfl) (c_X5_isThere c29) ?_
            refine am_if_ne 75 dX5_readTold_67 rfl (fun b42 => ?_) (fun b42 => ?_)
            · replace h := am_ifF b42 h
              refine am_aload_n dX5_readTold_75 rfl ?_
              refine am_getR (o' := o0a) dX5_readTold_76 fl_RX5_54 sh_5 rfl rfl hk_5 ?_
              refine am_aload_n dX5_readTold_79 rfl ?_
              refine am_dup dX5_readTold_80 rfl ?_
              refine am_getI dX5_readTold_81 fl_RX5_137 sh_5 rfl hk_5 ?_
              refine am_dup_x1 dX5_readTold_84 rfl rfl ?_
              refine am_iconst dX5_readTold_85 ic_1 ?_
              refine am_iadd dX5_readTold_86 ?_
              obtain ⟨M31, eM31, h⟩ := am_letE h
              refine am_putI dX5_readTold_87 fl_RX5_137 fp_X5_16 sh_5 rfl rfl rfl hk_5 ?_
              refine am_mem eM31 ?_
              refine am_iload_n dX5_readTold_90 rfl ?_
              obtain ⟨z32, h33, h⟩ := am_bnd h
              have KK34 : am_W K (d + 3) m_X5_readTold 99 [(0, .inr (.inr (5, o0a, 0))), (1, .inl a1)] [.inl z32, .inl (M.1 5 o0a 0 16), .inr (.inr (617, o0a, 0))] M31 post := by
                obtain ⟨g36, h⟩ := am_grd h
                obtain ⟨M37, eM37, h⟩ := am_letE h
                refine am_iastore dX5_readTold_99 sh_617 hk_617 (am_inbE g36) ?_
                refine am_mem eM37 ?_
                obtain ⟨v38, ev38, h⟩ := am_letE h
                refine am_iinc (ls' := [(0, .inr (.inr (5, o0a, 0))), (1, .inl v38)]) dX5_readTold_100 rfl ((congrArg (fun z => a1 + z) ic_1).trans ev38.symm) (Nat.le_of_ble_eq_true rfl) rfl ?_
                refine am_goto 22 dX5_readTold_103 rfl ?_
                exact am_drop [0, 1] rfl (ih _ _ _ h hp)
              clear h
              refine am_if_eq 98 dX5_readTold_91 rfl (fun b35 => ?_) (fun b35 => ?_)
              · replace h33 := am_ifT b35 h33
                refine am_iconst dX5_readTold_98 ic_0 ?_
                obtain rfl := Option.some.inj h33
                exact am_drop [0, 1] rfl KK34
              · replace h33 := am_ifF b35 h33
                refine am_iconst dX5_readTold_94 ic_1 ?_
                refine am_goto 99 dX5_readTold_95 rfl ?_
                obtain rfl := Option.some.inj h33
                exact am_drop [0, 1] rfl KK34
            · replace h := am_ifT b42 h
              refine am_aload_n dX5_readTold_70 rfl ?_
              obtain ⟨r40, c39, h⟩ := am_bnd h
              refine am_callVi (as := []) dX5_readTold_71 cv_RX5_194 cb_X5_wrong sh_5 rfl hk_5 rfl rfl (Nat.le_of_ble_eq_true rfl) (c_X5_wrong c39) ?_
              obtain ⟨g41, h⟩ := am_grd h
              obtain rfl := Option.some.inj h
              exact am_ireturn dX5_readTold_74 rfl (am_narZ g41) hp
      clear h
      refine am_icmp_ne 45 dX5_readTold_38 rfl (fun b10 => ?_) (fun b10 => ?_)
      · replace h8 := am_ifF b10 h8
        refine am_iconst dX5_readTold_45 ic_0 ?_
        obtain rfl := Option.some.inj h8
        exact am_drop [0, 1] rfl KK9
      · replace h8 := am_ifT b10 h8
        refine am_iconst dX5_readTold_41 ic_1 ?_
        refine am_goto 46 dX5_readTold_42 rfl ?_
        obtain rfl := Option.some.inj h8
        exact am_drop [0, 1] rfl KK9
def f_X5_readTold (M : am_M) (o : Nat) : Option (Int32 × am_M) :=
  (f_X5_look M o).bind (fun r2 => (if (r2.1 5 o 0 22) = (1 : Int32) then am_let (r2.1 5 o 0 23) (fun v3 => l_X5_readTold_22 o 1000 v3 r2) else (f_X5_wrong r2 o).bind (fun r47 => if (r47.1 = 0 ∨ r47.1 = 1) then some (r47.1, r47.2) else none)))
set_option maxHeartbeats 4000000 in
theorem w_X5_readTold {K : am_K} {d : Nat} {post : Option am_V → am_M → Prop} {M : am_M} {o : Nat} {y : Int32 × am_M} (h : f_X5_readTold M o = some y) (hp : post (some (.inl y.1)) y.2) : am_W K (d + 3) m_X5_readTold 0 [(0, .inr (.inr (5, o, 0)))] [] M post := by
  unfold f_X5_readTold at h
  refine am_aload_n dX5_readTold_0 rfl ?_
  obtain ⟨r2, c1, h⟩ := am_bnd h
  refine am_callVv (as := []) dX5_readTold_1 cv_RX5_198 cb_X5_look sh_5 rfl hk_5 rfl rfl (Nat.le_of_ble_eq_true rfl) (c_X5_look c1) ?_
  refine am_aload_n dX5_readTold_4 rfl ?_
  refine am_getI dX5_readTold_5 fl_RX5_171 sh_5 rfl hk_5 ?_
  refine am_iconst dX5_readTold_8 ic_1 ?_
  refine am_icmp_eq 17 dX5_readTold_9 rfl (fun b49 => ?_) (fun b49 => ?_)
  · replace h := am_ifT b49 h
    refine am_aload_n dX5_readTold_17 rfl ?_
    refine am_getI dX5_readTold_18 fl_RX5_165 sh_5 rfl hk_5 ?_
    obtain ⟨v3, ev3, h⟩ := am_letE h
    refine am_topI ev3 ?_
    refine am_istore_n (ls' := [(0, .inr (.inr (5, o, 0))), (1, .inl v3)]) dX5_readTold_21 (Nat.le_of_ble_eq_true rfl) rfl ?_
    exact am_drop [0, 1] rfl (wl_X5_readTold_22 _ _ _ _ h hp)
  · replace h := am_ifF b49 h
    refine am_aload_n dX5_readTold_12 rfl ?_
    obtain ⟨r47, c46, h⟩ := am_bnd h
    refine am_callVi (as := []) dX5_readTold_13 cv_RX5_194 cb_X5_wrong sh_5 rfl hk_5 rfl rfl (Nat.le_of_ble_eq_true rfl) (c_X5_wrong c46) ?_
    obtain ⟨g48, h⟩ := am_grd h
    obtain rfl := Option.some.inj h
    exact am_ireturn dX5_readTold_16 rfl (am_narZ g48) hp
theorem c_X5_readTold {K : am_K} {d : Nat} {M : am_M} {o : Nat} {y : Int32 × am_M} (h : f_X5_readTold M o = some y) : am_Met K (d + 3) m_X5_readTold [.inr (.inr (5, o, 0))] M (fun q N => q = some (.inl y.1) ∧ N = y.2) :=
  am_Met_of cb_X5_readTold (Nat.le_of_ble_eq_true rfl) (w_X5_readTold h ⟨rfl, rfl⟩)
def f_X5_swapTold (M : am_M) (o : Nat) : Option (Int32 × am_M) :=
  (f_X5_tells M o (0 : Int32) ((M.1 5 o 0 10) - (1 : Int32))).bind (fun r2 => (if r2.1 = 0 then some ((0 : Int32), r2.2) else (if (r2.2.1 5 o 0 22) = (2 : Int32) then (if (r2.2.1 5 o 0 24) = (r2.2.1 626 o 0 (0 : Int32).toNatClampNeg) then (f_X5_wrong r2.2 o).bind (fun r12 => if (r12.1 = 0 ∨ r12.1 = 1) then some (r12.1, r12.2) else none) else (f_X5_number r2.2 o (1 : Int32) (0 : Int32) ((r2.2.1 5 o 0 10) - (1 : Int32))).bind (fun r15 => (if r15.1 = 0 then (f_X5_wrong r15.2 o).bind (fun r19 => if (r19.1 = 0 ∨ r19.1 = 1) then some (r19.1, r19.2) else none) else (f_X5_change r15.2 o (r15.2.1 626 o 0 (0 : Int32).toNatClampNeg) (r15.2.1 626 o 0 (1 : Int32).toNatClampNeg)).bind (fun r17 => some ((1 : Int32), r17))))) else (f_X5_number r2.2 o (1 : Int32) (0 : Int32) ((r2.2.1 5 o 0 10) - (1 : Int32))).bind (fun r4 => (if r4.1 = 0 then (f_X5_wrong r4.2 o).bind (fun r8 => if (r8.1 = 0 ∨ r8.1 = 1) then some (r8.1, r8.2) else none) else (f_X5_change r4.2 o (r4.2.1 626 o 0 (0 : Int32).toNatClampNeg) (r4.2.1 626 o 0 (1 : Int32).toNatClampNeg)).bind (fun r6 => some ((1 : Int32), r6)))))))
set_option maxHeartbeats 4000000 in
theorem w_X5_swapTold {K : am_K} {d : Nat} {post : Option am_V → am_M → Prop} {M : am_M} {o : Nat} {y : Int32 × am_M} (h : f_X5_swapTold M o = some y) (hp : post (some (.inl y.1)) y.2) : am_W K (d + 4) m_X5_swapTold 0 [(0, .inr (.inr (5, o, 0)))] [] M post := by
  unfold f_X5_swapTold at h
  refine am_aload_n dX5_swapTold_0 rfl ?_
  refine am_iconst dX5_swapTold_1 ic_0 ?_
  refine am_aload_n dX5_swapTold_2 rfl ?_
  refine am_getI dX5_swapTold_3 fl_RX5_130 sh_5 rfl hk_5 ?_
  refine am_iconst dX5_swapTold_6 ic_1 ?_
  refine am_isub dX5_swapTold_7 ?_
  obtain ⟨r2, c1, h⟩ := am_bnd h
  refine am_callVi (as := [.inl (0 : Int32), .inl ((M.1 5 o 0 10) - (1 : Int32))]) dX5_swapTold_8 cv_RX5_205 cb_X5_tells sh_5 rfl hk_5 rfl rfl (Nat.le_of_ble_eq_true rfl) (c_X5_tells c1) ?_
  refine am_if_ne 16 dX5_swapTold_11 rfl (fun b24 => ?_) (fun b24 => ?_)
  · replace h := am_ifF b24 h
    refine am_aload_n dX5_swapTold_16 rfl ?_
    refine am_getI dX5_swapTold_17 fl_RX5_171 sh_5 rfl hk_5 ?_
    refine am_iconst dX5_swapTold_20 ic_2 ?_
    refine am_icmp_ne 37 dX5_swapTold_21 rfl (fun b23 => ?_) (fun b23 => ?_)
    · replace h := am_ifF b23 h
      refine am_aload_n dX5_swapTold_37 rfl ?_
      refine am_iconst dX5_swapTold_38 ic_1 ?_
      refine am_iconst dX5_swapTold_39 ic_0 ?_
      refine am_aload_n dX5_swapTold_40 rfl ?_
      refine am_getI dX5_swapTold_41 fl_RX5_130 sh_5 rfl hk_5 ?_
      refine am_iconst dX5_swapTold_44 ic_1 ?_
      refine am_isub dX5_swapTold_45 ?_
      obtain ⟨r4, c3, h⟩ := am_bnd h
      refine am_callVi (as := [.inl (1 : Int32), .inl (0 : Int32), .inl ((r2.2.1 5 o 0 10) - (1 : Int32))]) dX5_swapTold_46 cv_RX5_201 cb_X5_number sh_5 rfl hk_5 rfl rfl (Nat.le_of_ble_eq_true rfl) (c_X5_number c3) ?_
      refine am_if_ne 57 dX5_swapTold_49 rfl (fun b10 => ?_) (fun b10 => ?_)
      · replace h := am_ifF b10 h
        refine am_aload_n dX5_swapTold_57 rfl ?_
        refine am_aload_n dX5_swapTold_58 rfl ?_
        refine am_getR (o' := o) dX5_swapTold_59 fl_RX5_61 sh_5 rfl rfl hk_5 ?_
        refine am_iconst dX5_swapTold_62 ic_0 ?_
        refine am_iaload dX5_swapTold_63 sh_626 hk_626 (am_inbE (by decide)) ?_
        refine am_aload_n dX5_swapTold_64 rfl ?_
        refine am_getR (o' := o) dX5_swapTold_65 fl_RX5_61 sh_5 rfl rfl hk_5 ?_
        refine am_iconst dX5_swapTold_68 ic_1 ?_
        refine am_iaload dX5_swapTold_69 sh_626 hk_626 (am_inbE (by decide)) ?_
        obtain ⟨r6, c5, h⟩ := am_bnd h
        refine am_callVv (as := [.inl (r4.2.1 626 o 0 (0 : Int32).toNatClampNeg), .inl (r4.2.1 626 o 0 (1 : Int32).toNatClampNeg)]) dX5_swapTold_70 cv_RX5_154 cb_X5_change sh_5 rfl hk_5 rfl rfl (Nat.le_of_ble_eq_true rfl) (c_X5_change c5) ?_
        refine am_iconst dX5_swapTold_73 ic_1 ?_
        obtain rfl := Option.some.inj h
        exact am_ireturn dX5_swapTold_74 rfl (am_narZ (by decide)) hp
      · replace h := am_ifT b10 h
        refine am_aload_n dX5_swapTold_52 rfl ?_
        obtain ⟨r8, c7, h⟩ := am_bnd h
        refine am_callVi (as := []) dX5_swapTold_53 cv_RX5_194 cb_X5_wrong sh_5 rfl hk_5 rfl rfl (Nat.le_of_ble_eq_true rfl) (c_X5_wrong c7) ?_
        obtain ⟨g9, h⟩ := am_grd h
        obtain rfl := Option.some.inj h
        exact am_ireturn dX5_swapTold_56 rfl (am_narZ g9) hp
    · replace h := am_ifT b23 h
      refine am_aload_n dX5_swapTold_24 rfl ?_
      refine am_getI dX5_swapTold_25 fl_RX5_168 sh_5 rfl hk_5 ?_
      refine am_aload_n dX5_swapTold_28 rfl ?_
      refine am_getR (o' := o) dX5_swapTold_29 fl_RX5_61 sh_5 rfl rfl hk_5 ?_
      refine am_iconst dX5_swapTold_32 ic_0 ?_
      refine am_iaload dX5_swapTold_33 sh_626 hk_626 (am_inbE (by decide)) ?_
      refine am_icmp_eq 52 dX5_swapTold_34 rfl (fun b22 => ?_) (fun b22 => ?_)
      · replace h := am_ifT b22 h
        refine am_aload_n dX5_swapTold_52 rfl ?_
        obtain ⟨r12, c11, h⟩ := am_bnd h
        refine am_callVi (as := []) dX5_swapTold_53 cv_RX5_194 cb_X5_wrong sh_5 rfl hk_5 rfl rfl (Nat.le_of_ble_eq_true rfl) (c_X5_wrong c11) ?_
        obtain ⟨g13, h⟩ := am_grd h
        obtain rfl := Option.some.inj h
        exact am_ireturn dX5_swapTold_56 rfl (am_narZ g13) hp
      · replace h := am_ifF b22 h
        refine am_aload_n dX5_swapTold_37 rfl ?_
        refine am_iconst dX5_swapTold_38 ic_1 ?_
        refine am_iconst dX5_swapTold_39 ic_0 ?_
        refine am_aload_n dX5_swapTold_40 rfl ?_
        refine am_getI dX5_swapTold_41 fl_RX5_130 sh_5 rfl hk_5 ?_
        refine am_iconst dX5_swapTold_44 ic_1 ?_
        refine am_isub dX5_swapTold_45 ?_
        obtain ⟨r15, c14, h⟩ := am_bnd h
        refine am_callVi (as := [.inl (1 : Int32), .inl (0 : Int32), .inl ((r2.2.1 5 o 0 10) - (1 : Int32))]) dX5_swapTold_46 cv_RX5_201 cb_X5_number sh_5 rfl hk_5 rfl rfl (Nat.le_of_ble_eq_true rfl) (c_X5_number c14) ?_
        refine am_if_ne 57 dX5_swapTold_49 rfl (fun b21 => ?_) (fun b21 => ?_)
        · replace h := am_ifF b21 h
          refine am_aload_n dX5_swapTold_57 rfl ?_
          refine am_aload_n dX5_swapTold_58 rfl ?_
          refine am_getR (o' := o) dX5_swapTold_59 fl_RX5_61 sh_5 rfl rfl hk_5 ?_
          refine am_iconst dX5_swapTold_62 ic_0 ?_
          refine am_iaload dX5_swapTold_63 sh_626 hk_626 (am_inbE (by decide)) ?_
          refine am_aload_n dX5_swapTold_64 rfl ?_
          refine am_getR (o' := o) dX5_swapTold_65 fl_RX5_61 sh_5 rfl rfl hk_5 ?_
          refine am_iconst dX5_swapTold_68 ic_1 ?_
          refine am_iaload dX5_swapTold_69 sh_626 hk_626 (am_inbE (by decide)) ?_
          obtain ⟨r17, c16, h⟩ := am_bnd h
          refine am_callVv (as := [.inl (r15.2.1 626 o 0 (0 : Int32).toNatClampNeg), .inl (r15.2.1 626 o 0 (1 : Int32).toNatClampNeg)]) dX5_swapTold_70 cv_RX5_154 cb_X5_change sh_5 rfl hk_5 rfl rfl (Nat.le_of_ble_eq_true rfl) (c_X5_change c16) ?_
          refine am_iconst dX5_swapTold_73 ic_1 ?_
          obtain rfl := Option.some.inj h
          exact am_ireturn dX5_swapTold_74 rfl (am_narZ (by decide)) hp
        · replace h := am_ifT b21 h
          refine am_aload_n dX5_swapTold_52 rfl ?_
          obtain ⟨r19, c18, h⟩ := am_bnd h
          refine am_callVi (as := []) dX5_swapTold_53 cv_RX5_194 cb_X5_wrong sh_5 rfl hk_5 rfl rfl (Nat.le_of_ble_eq_true rfl) (c_X5_wrong c18) ?_
          obtain ⟨g20, h⟩ := am_grd h
          obtain rfl := Option.some.inj h
          exact am_ireturn dX5_swapTold_56 rfl (am_narZ g20) hp
  · replace h := am_ifT b24 h
    refine am_iconst dX5_swapTold_14 ic_0 ?_
    obtain rfl := Option.some.inj h
    exact am_ireturn dX5_swapTold_15 rfl (am_narZ (by decide)) hp
theorem c_X5_swapTold {K : am_K} {d : Nat} {M : am_M} {o : Nat} {y : Int32 × am_M} (h : f_X5_swapTold M o = some y) : am_Met K (d + 4) m_X5_swapTold [.inr (.inr (5, o, 0))] M (fun q N => q = some (.inl y.1) ∧ N = y.2) :=
  am_Met_of cb_X5_swapTold (Nat.le_of_ble_eq_true rfl) (w_X5_swapTold h ⟨rfl, rfl⟩)
def l_X5_heapOf_62 (M : am_M) (o0a : Nat) (a1 : Int32) : Nat → Int32 → Option (Int32)
  | 0, _ => none
  | n + 1, a3 => if am_inb a3 4 = true then (if (M.1 613 o0a 0 a3.toNatClampNeg) = a1 then some a3 else am_let (a3 + (1 : Int32)) (fun v8 => l_X5_heapOf_62 M o0a a1 n v8)) else none
set_option maxHeartbeats 4000000 in
theorem wl_X5_heapOf_62 {K : am_K} {d : Nat} {post : Option am_V → am_M → Prop} {M : am_M} {o0a : Nat} {a1 : Int32} : ∀ (n : Nat) (a3 : Int32) (x : Int32), l_X5_heapOf_62 M o0a a1 n a3 = some x → am_W K (d + 1) m_X5_heapOf 78 [(3, .inl x)] [] M post → am_W K (d + 1) m_X5_heapOf 62 [(0, .inr (.inr (5, o0a, 0))), (1, .inl a1), (3, .inl a3)] [] M post := by
  intro n
  induction n with
  | zero => intro a3 x h KX; cases h
  | succ n ih =>
    intro a3 x h KX
    rw [l_X5_heapOf_62] at h
    refine am_aload_n dX5_heapOf_62 rfl ?_
    refine am_getR (o' := o0a) dX5_heapOf_63 fl_RX5_46 sh_5 rfl rfl hk_5 ?_
    refine am_iload_n dX5_heapOf_66 rfl ?_
    obtain ⟨g7, h⟩ := am_grd h
    refine am_iaload dX5_heapOf_67 sh_613 hk_613 (am_inbE g7) ?_
    refine am_iload_n dX5_heapOf_68 rfl ?_
    refine am_icmp_eq 78 dX5_heapOf_69 rfl (fun b9 => ?_) (fun b9 => ?_)
    · replace h := am_ifT b9 h
      obtain rfl := Option.some.inj h
      exact am_drop [3] rfl KX
    · replace h := am_ifF b9 h
      obtain ⟨v8, ev8, h⟩ := am_letE h
      refine am_iinc (ls' := [(0, .inr (.inr (5, o0a, 0))), (1, .inl a1), (3, .inl v8)]) dX5_heapOf_72 rfl ((congrArg (fun z => a3 + z) ic_1).trans ev8.symm) (Nat.le_of_ble_eq_true rfl) rfl ?_
      refine am_goto 62 dX5_heapOf_75 rfl ?_
      exact am_drop [0, 1, 3] rfl (ih _ _ h KX)
def f_X5_heapOf (M : am_M) (o : Nat) (x1 : Int32) (x2 : Int32) : Option (Int32 × am_M) :=
  (f_X5_in M x1.toInt64 (0 : Int64) (((M.1 5 o 0 10) - (1 : Int32)).toInt64)).bind (fun r2 => (if r2 = 0 then (f_X5_refuse M o (-2 : Int32)).bind (fun r4 => some (r4.1, r4.2)) else (f_X5_in M x2.toInt64 (0 : Int64) (2 : Int64)).bind (fun r6 => (if r6 = 0 then (f_X5_refuse M o (-2 : Int32)).bind (fun r18 => some (r18.1, r18.2)) else (if (2 : Int32) ≤ x2 then (l_X5_heapOf_62 M o x1 1000 (0 : Int32)).bind (fun z10 => some (z10, M)) else (if x2 = 0 then if am_inb x1 4 = true then some ((M.1 611 o 0 x1.toNatClampNeg), M) else none else if am_inb x1 4 = true then some ((M.1 612 o 0 x1.toNatClampNeg), M) else none))))))
set_option maxHeartbeats 4000000 in
theorem w_X5_heapOf {K : am_K} {d : Nat} {post : Option am_V → am_M → Prop} {M : am_M} {o : Nat} {x1 : Int32} {x2 : Int32} {y : Int32 × am_M} (h : f_X5_heapOf M o x1 x2 = some y) (hp : post (some (.inl y.1)) y.2) : am_W K (d + 1) m_X5_heapOf 0 [(0, .inr (.inr (5, o, 0))), (1, .inl x1), (2, .inl x2)] [] M post := by
  unfold f_X5_heapOf at h
  refine am_iload_n dX5_heapOf_0 rfl ?_
  refine am_i2l dX5_heapOf_1 ?_
  refine am_lconst dX5_heapOf_2 lc_0 ?_
  refine am_aload_n dX5_heapOf_3 rfl ?_
  refine am_getI dX5_heapOf_4 fl_RX5_130 sh_5 rfl hk_5 ?_
  refine am_iconst dX5_heapOf_7 ic_1 ?_
  refine am_isub dX5_heapOf_8 ?_
  refine am_i2l dX5_heapOf_9 ?_
  obtain ⟨r2, c1, h⟩ := am_bnd h
  refine am_callSi (as := [.inr (.inl x1.toInt64), .inr (.inl (0 : Int64)), .inr (.inl (((M.1 5 o 0 10) - (1 : Int32)).toInt64))]) dX5_heapOf_10 cs_RX5_95 cb_X5_in rfl rfl (Nat.le_of_ble_eq_true rfl) (c_X5_in c1) ?_
  refine am_if_eq 28 dX5_heapOf_13 rfl (fun b20 => ?_) (fun b20 => ?_)
  · replace h := am_ifT b20 h
    refine am_aload_n dX5_heapOf_28 rfl ?_
    refine am_bipush dX5_heapOf_29 bp_m2 ?_
    obtain ⟨r4, c3, h⟩ := am_bnd h
    refine am_callVi (as := [.inl (-2 : Int32)]) dX5_heapOf_31 cv_RX5_103 cb_X5_refuse sh_5 rfl hk_5 rfl rfl (Nat.le_of_ble_eq_true rfl) (c_X5_refuse c3) ?_
    obtain rfl := Option.some.inj h
    exact am_ireturn dX5_heapOf_34 rfl rfl hp
  · replace h := am_ifF b20 h
    refine am_iload_n dX5_heapOf_16 rfl ?_
    refine am_i2l dX5_heapOf_17 ?_
    refine am_lconst dX5_heapOf_18 lc_0 ?_
    refine am_ldc2 dX5_heapOf_19 kc_RX5_252 ?_
    obtain ⟨r6, c5, h⟩ := am_bnd h
    refine am_callSi (as := [.inr (.inl x2.toInt64), .inr (.inl (0 : Int64)), .inr (.inl (2 : Int64))]) dX5_heapOf_22 cs_RX5_95 cb_X5_in rfl rfl (Nat.le_of_ble_eq_true rfl) (c_X5_in c5) ?_
    refine am_if_ne 35 dX5_heapOf_25 rfl (fun b19 => ?_) (fun b19 => ?_)
    · replace h := am_ifF b19 h
      refine am_iload_n dX5_heapOf_35 rfl ?_
      refine am_iconst dX5_heapOf_36 ic_2 ?_
      refine am_icmp_ge 60 dX5_heapOf_37 rfl (fun b16 => ?_) (fun b16 => ?_)
      · replace h := am_ifT b16 h
        refine am_iconst dX5_heapOf_60 ic_0 ?_
        refine am_istore_n (ls' := [(0, .inr (.inr (5, o, 0))), (1, .inl x1), (2, .inl x2), (3, .inl (0 : Int32))]) dX5_heapOf_61 (Nat.le_of_ble_eq_true rfl) rfl ?_
        obtain ⟨z10, h11, h⟩ := am_bnd h
        have KK12 : am_W K (d + 1) m_X5_heapOf 78 [(3, .inl z10)] [] M post := by
          refine am_iload_n dX5_heapOf_78 rfl ?_
          obtain rfl := Option.some.inj h
          exact am_ireturn dX5_heapOf_79 rfl rfl hp
        exact am_drop [0, 1, 3] rfl (wl_X5_heapOf_62 _ _ _ h11 KK12)
      · replace h := am_ifF b16 h
        refine am_iload_n dX5_heapOf_40 rfl ?_
        refine am_if_ne 53 dX5_heapOf_41 rfl (fun b15 => ?_) (fun b15 => ?_)
        · replace h := am_ifF b15 h
          refine am_aload_n dX5_heapOf_53 rfl ?_
          refine am_getR (o' := o) dX5_heapOf_54 fl_RX5_43 sh_5 rfl rfl hk_5 ?_
          refine am_iload_n dX5_heapOf_57 rfl ?_
          obtain ⟨g13, h⟩ := am_grd h
          refine am_iaload dX5_heapOf_58 sh_612 hk_612 (am_inbE g13) ?_
          obtain rfl := Option.some.inj h
          exact am_ireturn dX5_heapOf_59 rfl rfl hp
        · replace h := am_ifT b15 h
          refine am_aload_n dX5_heapOf_44 rfl ?_
          refine am_getR (o' := o) dX5_heapOf_45 fl_RX5_40 sh_5 rfl rfl hk_5 ?_
          refine am_iload_n dX5_heapOf_48 rfl ?_
          obtain ⟨g14, h⟩ := am_grd h
          refine am_iaload dX5_heapOf_49 sh_611 hk_611 (am_inbE g14) ?_
          refine am_goto 59 dX5_heapOf_50 rfl ?_
          obtain rfl := Option.some.inj h
          exact am_ireturn dX5_heapOf_59 rfl rfl hp
    · replace h := am_ifT b19 h
      refine am_aload_n dX5_heapOf_28 rfl ?_
      refine am_bipush dX5_heapOf_29 bp_m2 ?_
      obtain ⟨r18, c17, h⟩ := am_bnd h
      refine am_callVi (as := [.inl (-2 : Int32)]) dX5_heapOf_31 cv_RX5_103 cb_X5_refuse sh_5 rfl hk_5 rfl rfl (Nat.le_of_ble_eq_true rfl) (c_X5_refuse c17) ?_
      obtain rfl := Option.some.inj h
      exact am_ireturn dX5_heapOf_34 rfl rfl hp
theorem c_X5_heapOf {K : am_K} {d : Nat} {M : am_M} {o : Nat} {x1 : Int32} {x2 : Int32} {y : Int32 × am_M} (h : f_X5_heapOf M o x1 x2 = some y) : am_Met K (d + 1) m_X5_heapOf [.inr (.inr (5, o, 0)), .inl x1, .inl x2] M (fun q N => q = some (.inl y.1) ∧ N = y.2) :=
  am_Met_of cb_X5_heapOf (Nat.le_of_ble_eq_true rfl) (w_X5_heapOf h ⟨rfl, rfl⟩)
def f_X5_factOf (M : am_M) (o : Nat) (x1 : Int32) (x2 : Int32) : Option (Int32 × am_M) :=
  (f_X5_in M x1.toInt64 (0 : Int64) (((M.1 5 o 0 14) - (1 : Int32)).toInt64)).bind (fun r2 => (if r2 = 0 then (f_X5_refuse M o (-2 : Int32)).bind (fun r4 => some (r4.1, r4.2)) else (f_X5_in M x2.toInt64 (0 : Int64) (2 : Int64)).bind (fun r6 => (if r6 = 0 then (f_X5_refuse M o (-2 : Int32)).bind (fun r8 => some (r8.1, r8.2)) else if am_inb x1 4 = true then if am_inb x2 3 = true then some ((M.1 715 o x1.toNatClampNeg x2.toNatClampNeg), M) else none else none))))
set_option maxHeartbeats 4000000 in
theorem w_X5_factOf {K : am_K} {d : Nat} {post : Option am_V → am_M → Prop} {M : am_M} {o : Nat} {x1 : Int32} {x2 : Int32} {y : Int32 × am_M} (h : f_X5_factOf M o x1 x2 = some y) (hp : post (some (.inl y.1)) y.2) : am_W K (d + 1) m_X5_factOf 0 [(0, .inr (.inr (5, o, 0))), (1, .inl x1), (2, .inl x2)] [] M post := by
  unfold f_X5_factOf at h
  refine am_iload_n dX5_factOf_0 rfl ?_
  refine am_i2l dX5_factOf_1 ?_
  refine am_lconst dX5_factOf_2 lc_0 ?_
  refine am_aload_n dX5_factOf_3 rfl ?_
  refine am_getI dX5_factOf_4 fl_RX5_151 sh_5 rfl hk_5 ?_
  refine am_iconst dX5_factOf_7 ic_1 ?_
  refine am_isub dX5_factOf_8 ?_
  refine am_i2l dX5_factOf_9 ?_
  obtain ⟨r2, c1, h⟩ := am_bnd h
  refine am_callSi (as := [.inr (.inl x1.toInt64), .inr (.inl (0 : Int64)), .inr (.inl (((M.1 5 o 0 14) - (1 : Int32)).toInt64))]) dX5_factOf_10 cs_RX5_95 cb_X5_in rfl rfl (Nat.le_of_ble_eq_true rfl) (c_X5_in c1) ?_
  refine am_if_eq 39 dX5_factOf_13 rfl (fun b12 => ?_) (fun b12 => ?_)
  · replace h := am_ifT b12 h
    refine am_aload_n dX5_factOf_39 rfl ?_
    refine am_bipush dX5_factOf_40 bp_m2 ?_
    obtain ⟨r4, c3, h⟩ := am_bnd h
    refine am_callVi (as := [.inl (-2 : Int32)]) dX5_factOf_42 cv_RX5_103 cb_X5_refuse sh_5 rfl hk_5 rfl rfl (Nat.le_of_ble_eq_true rfl) (c_X5_refuse c3) ?_
    obtain rfl := Option.some.inj h
    exact am_ireturn dX5_factOf_45 rfl rfl hp
  · replace h := am_ifF b12 h
    refine am_iload_n dX5_factOf_16 rfl ?_
    refine am_i2l dX5_factOf_17 ?_
    refine am_lconst dX5_factOf_18 lc_0 ?_
    refine am_ldc2 dX5_factOf_19 kc_RX5_252 ?_
    obtain ⟨r6, c5, h⟩ := am_bnd h
    refine am_callSi (as := [.inr (.inl x2.toInt64), .inr (.inl (0 : Int64)), .inr (.inl (2 : Int64))]) dX5_factOf_22 cs_RX5_95 cb_X5_in rfl rfl (Nat.le_of_ble_eq_true rfl) (c_X5_in c5) ?_
    refine am_if_eq 39 dX5_factOf_25 rfl (fun b11 => ?_) (fun b11 => ?_)
    · replace h := am_ifT b11 h
      refine am_aload_n dX5_factOf_39 rfl ?_
      refine am_bipush dX5_factOf_40 bp_m2 ?_
      obtain ⟨r8, c7, h⟩ := am_bnd h
      refine am_callVi (as := [.inl (-2 : Int32)]) dX5_factOf_42 cv_RX5_103 cb_X5_refuse sh_5 rfl hk_5 rfl rfl (Nat.le_of_ble_eq_true rfl) (c_X5_refuse c7) ?_
      obtain rfl := Option.some.inj h
      exact am_ireturn dX5_factOf_45 rfl rfl hp
    · replace h := am_ifF b11 h
      refine am_aload_n dX5_factOf_28 rfl ?_
      refine am_getR (o' := o) dX5_factOf_29 fl_RX5_51 sh_5 rfl rfl hk_5 ?_
      refine am_iload_n dX5_factOf_32 rfl ?_
      obtain ⟨g9, h⟩ := am_grd h
      refine am_aaload dX5_factOf_33 sh_615 rfl rfl hk_615 (am_inbE g9) ?_
      refine am_top (w := .inr (.inr (715, o, x1.toNatClampNeg))) rfl ?_
      refine am_iload_n dX5_factOf_34 rfl ?_
      obtain ⟨g10, h⟩ := am_grd h
      refine am_iaload dX5_factOf_35 sh_715 hk_715 (am_inbE g10) ?_
      refine am_goto 45 dX5_factOf_36 rfl ?_
      obtain rfl := Option.some.inj h
      exact am_ireturn dX5_factOf_45 rfl rfl hp
theorem c_X5_factOf {K : am_K} {d : Nat} {M : am_M} {o : Nat} {x1 : Int32} {x2 : Int32} {y : Int32 × am_M} (h : f_X5_factOf M o x1 x2 = some y) : am_Met K (d + 1) m_X5_factOf [.inr (.inr (5, o, 0)), .inl x1, .inl x2] M (fun q N => q = some (.inl y.1) ∧ N = y.2) :=
  am_Met_of cb_X5_factOf (Nat.le_of_ble_eq_true rfl) (w_X5_factOf h ⟨rfl, rfl⟩)
