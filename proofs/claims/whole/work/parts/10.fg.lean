def l_X5_allA_4 (M : am_M) (o0a : Nat) : Nat → Int32 → Int32 → Option (Int32)
  | 0, _, _ => none
  | n + 1, a1, a2 => (if (M.1 5 o0a 0 10) ≤ a2 then some a1 else if am_inb a2 4 = true then am_let (a1 + (M.1 611 o0a 0 a2.toNatClampNeg)) (fun v2 => am_let (a2 + (1 : Int32)) (fun v3 => l_X5_allA_4 M o0a n v2 v3)) else none)
set_option maxHeartbeats 4000000 in
theorem wl_X5_allA_4 {K : am_K} {d : Nat} {post : Option am_V → am_M → Prop} {M : am_M} {o0a : Nat} : ∀ (n : Nat) (a1 : Int32) (a2 : Int32) (x : Int32), l_X5_allA_4 M o0a n a1 a2 = some x → am_W K d m_X5_allA 27 [(1, .inl x)] [] M post → am_W K d m_X5_allA 4 [(0, .inr (.inr (5, o0a, 0))), (1, .inl a1), (2, .inl a2)] [] M post := by
  intro n
  induction n with
  | zero => intro a1 a2 x h KX; cases h
  | succ n ih =>
    intro a1 a2 x h KX
    rw [l_X5_allA_4] at h
    refine am_iload_n dX5_allA_4 rfl ?_
    refine am_aload_n dX5_allA_5 rfl ?_
    refine am_getI dX5_allA_6 fl_RX5_130 sh_5 rfl hk_5 ?_
    refine am_icmp_ge 27 dX5_allA_9 rfl (fun b4 => ?_) (fun b4 => ?_)
    · replace h := am_ifT b4 h
      obtain rfl := Option.some.inj h
      exact am_drop [1] rfl KX
    · replace h := am_ifF b4 h
      refine am_iload_n dX5_allA_12 rfl ?_
      refine am_aload_n dX5_allA_13 rfl ?_
      refine am_getR (o' := o0a) dX5_allA_14 fl_RX5_40 sh_5 rfl rfl hk_5 ?_
      refine am_iload_n dX5_allA_17 rfl ?_
      obtain ⟨g1, h⟩ := am_grd h
      refine am_iaload dX5_allA_18 sh_611 hk_611 (am_inbE g1) ?_
      refine am_iadd dX5_allA_19 ?_
      obtain ⟨v2, ev2, h⟩ := am_letE h
      refine am_topI ev2 ?_
      refine am_istore_n (ls' := [(0, .inr (.inr (5, o0a, 0))), (1, .inl v2), (2, .inl a2)]) dX5_allA_20 (Nat.le_of_ble_eq_true rfl) rfl ?_
      obtain ⟨v3, ev3, h⟩ := am_letE h
      refine am_iinc (ls' := [(0, .inr (.inr (5, o0a, 0))), (1, .inl v2), (2, .inl v3)]) dX5_allA_21 rfl ((congrArg (fun z => a2 + z) ic_1).trans ev3.symm) (Nat.le_of_ble_eq_true rfl) rfl ?_
      refine am_goto 4 dX5_allA_24 rfl ?_
      exact am_drop [0, 1, 2] rfl (ih _ _ _ h KX)
def f_X5_allA (M : am_M) (o : Nat) : Option (Int32) :=
  (l_X5_allA_4 M o 1000 (0 : Int32) (0 : Int32)).bind (fun z5 => some z5)
set_option maxHeartbeats 4000000 in
theorem w_X5_allA {K : am_K} {d : Nat} {post : Option am_V → am_M → Prop} {M : am_M} {o : Nat} {y : Int32} (h : f_X5_allA M o = some y) (hp : post (some (.inl y)) M) : am_W K d m_X5_allA 0 [(0, .inr (.inr (5, o, 0)))] [] M post := by
  unfold f_X5_allA at h
  refine am_iconst dX5_allA_0 ic_0 ?_
  refine am_istore_n (ls' := [(0, .inr (.inr (5, o, 0))), (1, .inl (0 : Int32))]) dX5_allA_1 (Nat.le_of_ble_eq_true rfl) rfl ?_
  refine am_iconst dX5_allA_2 ic_0 ?_
  refine am_istore_n (ls' := [(0, .inr (.inr (5, o, 0))), (1, .inl (0 : Int32)), (2, .inl (0 : Int32))]) dX5_allA_3 (Nat.le_of_ble_eq_true rfl) rfl ?_
  obtain ⟨z5, h6, h⟩ := am_bnd h
  have KK7 : am_W K d m_X5_allA 27 [(1, .inl z5)] [] M post := by
    refine am_iload_n dX5_allA_27 rfl ?_
    obtain rfl := Option.some.inj h
    exact am_ireturn dX5_allA_28 rfl rfl hp
  exact am_drop [0, 1, 2] rfl (wl_X5_allA_4 _ _ _ _ h6 KK7)
theorem c_X5_allA {K : am_K} {d : Nat} {M : am_M} {o : Nat} {y : Int32} (h : f_X5_allA M o = some y) : am_Met K d m_X5_allA [.inr (.inr (5, o, 0))] M (fun q N => q = some (.inl y) ∧ N = M) :=
  am_Met_of cb_X5_allA (Nat.le_of_ble_eq_true rfl) (w_X5_allA h ⟨rfl, rfl⟩)
def l_X5_countBack_11 (o0a : Nat) (a1 : Int32) : Nat → Int32 → am_M → Option (am_M)
  | 0, _, _ => none
  | n + 1, a2, M => (if a1 < a2 then some M else ((if a1 = (M.1 5 o0a 0 29) then some (1 : Int64) else if am_inb (a1 + (1 : Int32)) 25 = true then if am_inb a2 25 = true then if am_inb (a1 + (1 : Int32)) 25 = true then if am_inb (a2 + (1 : Int32)) 25 = true then some ((M.2 731 o0a (a1 + (1 : Int32)).toNatClampNeg a2.toNatClampNeg) + (M.2 731 o0a (a1 + (1 : Int32)).toNatClampNeg (a2 + (1 : Int32)).toNatClampNeg)) else none else none else none else none) : Option (Int64)).bind (fun z2 => if am_inb a1 25 = true then if am_inb a1 25 = true then if am_inb a2 25 = true then ((if (M.1 728 o0a a1.toNatClampNeg a2.toNatClampNeg) = 0 then some (0 : Int64) else some z2) : Option (Int64)).bind (fun z13 => if am_inb a2 25 = true then am_let (am_sl M 731 o0a a1.toNatClampNeg a2.toNatClampNeg z13) (fun M18 => am_let (a2 + (1 : Int32)) (fun v19 => l_X5_countBack_11 o0a a1 n v19 M18)) else none) else none else none else none))
set_option maxHeartbeats 4000000 in
theorem wl_X5_countBack_11 {K : am_K} {d : Nat} {post : Option am_V → am_M → Prop} {o0a : Nat} {a1 : Int32} : ∀ (n : Nat) (a2 : Int32) (M : am_M) (x : am_M), l_X5_countBack_11 o0a a1 n a2 M = some x → am_W K d m_X5_countBack 82 [(0, .inr (.inr (5, o0a, 0))), (1, .inl a1)] [] x post → am_W K d m_X5_countBack 11 [(0, .inr (.inr (5, o0a, 0))), (1, .inl a1), (2, .inl a2)] [] M post := by
  intro n
  induction n with
  | zero => intro a2 M x h KX; cases h
  | succ n ih =>
    intro a2 M x h KX
    rw [l_X5_countBack_11] at h
    refine am_iload_n dX5_countBack_11 rfl ?_
    refine am_iload_n dX5_countBack_12 rfl ?_
    refine am_icmp_gt 82 dX5_countBack_13 rfl (fun b20 => ?_) (fun b20 => ?_)
    · replace h := am_ifT b20 h
      obtain rfl := Option.some.inj h
      exact am_drop [0, 1] rfl KX
    · replace h := am_ifF b20 h
      refine am_iload_n dX5_countBack_16 rfl ?_
      refine am_aload_n dX5_countBack_17 rfl ?_
      refine am_getI dX5_countBack_18 fl_RX5_254 sh_5 rfl hk_5 ?_
      obtain ⟨z2, h3, h⟩ := am_bnd h
      have KK4 : am_W K d m_X5_countBack 51 [(0, .inr (.inr (5, o0a, 0))), (1, .inl a1), (2, .inl a2)] [.inr (.inl z2)] M post := by
        refine am_lstore_n (ls' := [(0, .inr (.inr (5, o0a, 0))), (1, .inl a1), (2, .inl a2), (3, .inr (.inl z2))]) dX5_countBack_51 (Nat.le_of_ble_eq_true rfl) rfl ?_
        refine am_aload_n dX5_countBack_52 rfl ?_
        refine am_getR (o' := o0a) dX5_countBack_53 fl_RX5_72 sh_5 rfl rfl hk_5 ?_
        refine am_iload_n dX5_countBack_56 rfl ?_
        obtain ⟨g10, h⟩ := am_grd h
        refine am_aaload dX5_countBack_57 sh_631 rfl rfl hk_631 (am_inbE g10) ?_
        refine am_top (w := .inr (.inr (731, o0a, a1.toNatClampNeg))) rfl ?_
        refine am_iload_n dX5_countBack_58 rfl ?_
        refine am_aload_n dX5_countBack_59 rfl ?_
        refine am_getR (o' := o0a) dX5_countBack_60 fl_RX5_66 sh_5 rfl rfl hk_5 ?_
        refine am_iload_n dX5_countBack_63 rfl ?_
        obtain ⟨g11, h⟩ := am_grd h
        refine am_aaload dX5_countBack_64 sh_628 rfl rfl hk_628 (am_inbE g11) ?_
        refine am_top (w := .inr (.inr (728, o0a, a1.toNatClampNeg))) rfl ?_
        refine am_iload_n dX5_countBack_65 rfl ?_
        obtain ⟨g12, h⟩ := am_grd h
        refine am_zaload dX5_countBack_66 sh_728 hk_728 (am_inbE g12) ?_
        obtain ⟨z13, h14, h⟩ := am_bnd h
        have KK15 : am_W K d m_X5_countBack 75 [(0, .inr (.inr (5, o0a, 0))), (1, .inl a1), (2, .inl a2)] [.inr (.inl z13), .inl a2, .inr (.inr (731, o0a, a1.toNatClampNeg))] M post := by
          obtain ⟨g17, h⟩ := am_grd h
          obtain ⟨M18, eM18, h⟩ := am_letE h
          refine am_lastore dX5_countBack_75 sh_731 hk_731 (am_inbE g17) ?_
          refine am_mem eM18 ?_
          obtain ⟨v19, ev19, h⟩ := am_letE h
          refine am_iinc (ls' := [(0, .inr (.inr (5, o0a, 0))), (1, .inl a1), (2, .inl v19)]) dX5_countBack_76 rfl ((congrArg (fun z => a2 + z) ic_1).trans ev19.symm) (Nat.le_of_ble_eq_true rfl) rfl ?_
          refine am_goto 11 dX5_countBack_79 rfl ?_
          exact am_drop [0, 1, 2] rfl (ih _ _ _ h KX)
        clear h
        refine am_if_eq 74 dX5_countBack_67 rfl (fun b16 => ?_) (fun b16 => ?_)
        · replace h14 := am_ifT b16 h14
          refine am_lconst dX5_countBack_74 lc_0 ?_
          obtain rfl := Option.some.inj h14
          exact am_drop [0, 1, 2] rfl KK15
        · replace h14 := am_ifF b16 h14
          refine am_lload_n dX5_countBack_70 rfl ?_
          refine am_goto 75 dX5_countBack_71 rfl ?_
          obtain rfl := Option.some.inj h14
          exact am_drop [0, 1, 2] rfl KK15
      clear h
      refine am_icmp_ne 28 dX5_countBack_21 rfl (fun b9 => ?_) (fun b9 => ?_)
      · replace h3 := am_ifF b9 h3
        refine am_aload_n dX5_countBack_28 rfl ?_
        refine am_getR (o' := o0a) dX5_countBack_29 fl_RX5_72 sh_5 rfl rfl hk_5 ?_
        refine am_iload_n dX5_countBack_32 rfl ?_
        refine am_iconst dX5_countBack_33 ic_1 ?_
        refine am_iadd dX5_countBack_34 ?_
        obtain ⟨g5, h3⟩ := am_grd h3
        refine am_aaload dX5_countBack_35 sh_631 rfl rfl hk_631 (am_inbE g5) ?_
        refine am_top (w := .inr (.inr (731, o0a, (a1 + (1 : Int32)).toNatClampNeg))) rfl ?_
        refine am_iload_n dX5_countBack_36 rfl ?_
        obtain ⟨g6, h3⟩ := am_grd h3
        refine am_laload dX5_countBack_37 sh_731 hk_731 (am_inbE g6) ?_
        refine am_aload_n dX5_countBack_38 rfl ?_
        refine am_getR (o' := o0a) dX5_countBack_39 fl_RX5_72 sh_5 rfl rfl hk_5 ?_
        refine am_iload_n dX5_countBack_42 rfl ?_
        refine am_iconst dX5_countBack_43 ic_1 ?_
        refine am_iadd dX5_countBack_44 ?_
        obtain ⟨g7, h3⟩ := am_grd h3
        refine am_aaload dX5_countBack_45 sh_631 rfl rfl hk_631 (am_inbE g7) ?_
        refine am_top (w := .inr (.inr (731, o0a, (a1 + (1 : Int32)).toNatClampNeg))) rfl ?_
        refine am_iload_n dX5_countBack_46 rfl ?_
        refine am_iconst dX5_countBack_47 ic_1 ?_
        refine am_iadd dX5_countBack_48 ?_
        obtain ⟨g8, h3⟩ := am_grd h3
        refine am_laload dX5_countBack_49 sh_731 hk_731 (am_inbE g8) ?_
        refine am_ladd dX5_countBack_50 ?_
        obtain rfl := Option.some.inj h3
        exact am_drop [0, 1, 2] rfl KK4
      · replace h3 := am_ifT b9 h3
        refine am_lconst dX5_countBack_24 lc_1 ?_
        refine am_goto 51 dX5_countBack_25 rfl ?_
        obtain rfl := Option.some.inj h3
        exact am_drop [0, 1, 2] rfl KK4
def l_X5_countBack_5 (o0a : Nat) : Nat → Int32 → am_M → Option (am_M)
  | 0, _, _ => none
  | n + 1, a1, M => (if a1 < 0 then some M else (l_X5_countBack_11 o0a a1 1000 (0 : Int32) M).bind (fun z21 => am_let (a1 + (-1 : Int32)) (fun v24 => l_X5_countBack_5 o0a n v24 z21)))
set_option maxHeartbeats 4000000 in
theorem wl_X5_countBack_5 {K : am_K} {d : Nat} {post : Option am_V → am_M → Prop} {o0a : Nat} : ∀ (n : Nat) (a1 : Int32) (M : am_M) (x : am_M), l_X5_countBack_5 o0a n a1 M = some x → am_W K d m_X5_countBack 88 [] [] x post → am_W K d m_X5_countBack 5 [(0, .inr (.inr (5, o0a, 0))), (1, .inl a1)] [] M post := by
  intro n
  induction n with
  | zero => intro a1 M x h KX; cases h
  | succ n ih =>
    intro a1 M x h KX
    rw [l_X5_countBack_5] at h
    refine am_iload_n dX5_countBack_5 rfl ?_
    refine am_if_lt 88 dX5_countBack_6 rfl (fun b25 => ?_) (fun b25 => ?_)
    · replace h := am_ifT b25 h
      obtain rfl := Option.some.inj h
      exact am_drop [] rfl KX
    · replace h := am_ifF b25 h
      refine am_iconst dX5_countBack_9 ic_0 ?_
      refine am_istore_n (ls' := [(0, .inr (.inr (5, o0a, 0))), (1, .inl a1), (2, .inl (0 : Int32))]) dX5_countBack_10 (Nat.le_of_ble_eq_true rfl) rfl ?_
      obtain ⟨z21, h22, h⟩ := am_bnd h
      have KK23 : am_W K d m_X5_countBack 82 [(0, .inr (.inr (5, o0a, 0))), (1, .inl a1)] [] z21 post := by
        obtain ⟨v24, ev24, h⟩ := am_letE h
        refine am_iinc (ls' := [(0, .inr (.inr (5, o0a, 0))), (1, .inl v24)]) dX5_countBack_82 rfl ((congrArg (fun z => a1 + z) ic_m1).trans ev24.symm) (Nat.le_of_ble_eq_true rfl) rfl ?_
        refine am_goto 5 dX5_countBack_85 rfl ?_
        exact am_drop [0, 1] rfl (ih _ _ _ h KX)
      exact am_drop [0, 1, 2] rfl (wl_X5_countBack_11 _ _ _ _ h22 KK23)
def f_X5_countBack (M : am_M) (o : Nat) : Option (am_M) :=
  am_let (M.1 5 o 0 29) (fun v1 => (l_X5_countBack_5 o 1000 v1 M).bind (fun z26 => some z26))
set_option maxHeartbeats 4000000 in
theorem w_X5_countBack {K : am_K} {d : Nat} {post : Option am_V → am_M → Prop} {M : am_M} {o : Nat} {y : am_M} (h : f_X5_countBack M o = some y) (hp : post none y) : am_W K d m_X5_countBack 0 [(0, .inr (.inr (5, o, 0)))] [] M post := by
  unfold f_X5_countBack at h
  refine am_aload_n dX5_countBack_0 rfl ?_
  refine am_getI dX5_countBack_1 fl_RX5_254 sh_5 rfl hk_5 ?_
  obtain ⟨v1, ev1, h⟩ := am_letE h
  refine am_topI ev1 ?_
  refine am_istore_n (ls' := [(0, .inr (.inr (5, o, 0))), (1, .inl v1)]) dX5_countBack_4 (Nat.le_of_ble_eq_true rfl) rfl ?_
  obtain ⟨z26, h27, h⟩ := am_bnd h
  have KK28 : am_W K d m_X5_countBack 88 [] [] z26 post := by
    obtain rfl := Option.some.inj h
    exact am_return dX5_countBack_88 rfl hp
  exact am_drop [0, 1] rfl (wl_X5_countBack_5 _ _ _ _ h27 KK28)
theorem c_X5_countBack {K : am_K} {d : Nat} {M : am_M} {o : Nat} {y : am_M} (h : f_X5_countBack M o = some y) : am_Met K d m_X5_countBack [.inr (.inr (5, o, 0))] M (fun q N => q = none ∧ N = y) :=
  am_Met_of cb_X5_countBack (Nat.le_of_ble_eq_true rfl) (w_X5_countBack h ⟨rfl, rfl⟩)
def f_X5_isSureAt (M : am_M) (o : Nat) (x1 : Int32) (x2 : Int32) : Option (Int32) :=
  am_let (((2 : Int32) * x2) - x1) (fun v1 => (if ((M.1 5 o 0 29) - x1) < v1 then some (1 : Int32) else (if (-v1) ≤ ((M.1 5 o 0 29) - x1) then some (0 : Int32) else some (1 : Int32))))
set_option maxHeartbeats 4000000 in
theorem w_X5_isSureAt {K : am_K} {d : Nat} {post : Option am_V → am_M → Prop} {M : am_M} {o : Nat} {x1 : Int32} {x2 : Int32} {y : Int32} (h : f_X5_isSureAt M o x1 x2 = some y) (hp : post (some (.inl y)) M) : am_W K d m_X5_isSureAt 0 [(0, .inr (.inr (5, o, 0))), (1, .inl x1), (2, .inl x2)] [] M post := by
  unfold f_X5_isSureAt at h
  refine am_iconst dX5_isSureAt_0 ic_2 ?_
  refine am_iload_n dX5_isSureAt_1 rfl ?_
  refine am_imul dX5_isSureAt_2 ?_
  refine am_iload_n dX5_isSureAt_3 rfl ?_
  refine am_isub dX5_isSureAt_4 ?_
  obtain ⟨v1, ev1, h⟩ := am_letE h
  refine am_topI ev1 ?_
  refine am_istore_n (ls' := [(0, .inr (.inr (5, o, 0))), (1, .inl x1), (2, .inl x2), (3, .inl v1)]) dX5_isSureAt_5 (Nat.le_of_ble_eq_true rfl) rfl ?_
  refine am_iload_n dX5_isSureAt_6 rfl ?_
  refine am_aload_n dX5_isSureAt_7 rfl ?_
  refine am_getI dX5_isSureAt_8 fl_RX5_254 sh_5 rfl hk_5 ?_
  refine am_iload_n dX5_isSureAt_11 rfl ?_
  refine am_isub dX5_isSureAt_12 ?_
  refine am_icmp_gt 27 dX5_isSureAt_13 rfl (fun b3 => ?_) (fun b3 => ?_)
  · replace h := am_ifT b3 h
    refine am_iconst dX5_isSureAt_27 ic_1 ?_
    refine am_goto 32 dX5_isSureAt_28 rfl ?_
    obtain rfl := Option.some.inj h
    exact am_ireturn dX5_isSureAt_32 rfl (am_narZ (by decide)) hp
  · replace h := am_ifF b3 h
    refine am_iload_n dX5_isSureAt_16 rfl ?_
    refine am_ineg dX5_isSureAt_17 ?_
    refine am_aload_n dX5_isSureAt_18 rfl ?_
    refine am_getI dX5_isSureAt_19 fl_RX5_254 sh_5 rfl hk_5 ?_
    refine am_iload_n dX5_isSureAt_22 rfl ?_
    refine am_isub dX5_isSureAt_23 ?_
    refine am_icmp_le 31 dX5_isSureAt_24 rfl (fun b2 => ?_) (fun b2 => ?_)
    · replace h := am_ifT b2 h
      refine am_iconst dX5_isSureAt_31 ic_0 ?_
      obtain rfl := Option.some.inj h
      exact am_ireturn dX5_isSureAt_32 rfl (am_narZ (by decide)) hp
    · replace h := am_ifF b2 h
      refine am_iconst dX5_isSureAt_27 ic_1 ?_
      refine am_goto 32 dX5_isSureAt_28 rfl ?_
      obtain rfl := Option.some.inj h
      exact am_ireturn dX5_isSureAt_32 rfl (am_narZ (by decide)) hp
theorem c_X5_isSureAt {K : am_K} {d : Nat} {M : am_M} {o : Nat} {x1 : Int32} {x2 : Int32} {y : Int32} (h : f_X5_isSureAt M o x1 x2 = some y) : am_Met K d m_X5_isSureAt [.inr (.inr (5, o, 0)), .inl x1, .inl x2] M (fun q N => q = some (.inl y) ∧ N = M) :=
  am_Met_of cb_X5_isSureAt (Nat.le_of_ble_eq_true rfl) (w_X5_isSureAt h ⟨rfl, rfl⟩)
def l_X5_countSurely_40 (o0a : Nat) (a1 : Int32) (a2 : Int32) (a5 : Int32) : Nat → Int64 → Int32 → am_M → Option (Int64 × am_M)
  | 0, _, _, _ => none
  | n + 1, a3, a6, M => (if a5 < a6 then some (a3, M) else ((if a5 = 0 then some (1 : Int64) else ((if a6 ≤ 0 then some (0 : Int64) else if am_inb (a5 - (1 : Int32)) 25 = true then if am_inb (a6 - (1 : Int32)) 25 = true then some (M.2 730 o0a (a5 - (1 : Int32)).toNatClampNeg (a6 - (1 : Int32)).toNatClampNeg) else none else none) : Option (Int64)).bind (fun z12 => ((if a5 ≤ a6 then some (0 : Int64) else if am_inb (a5 - (1 : Int32)) 25 = true then if am_inb a6 25 = true then some (M.2 730 o0a (a5 - (1 : Int32)).toNatClampNeg a6.toNatClampNeg) else none else none) : Option (Int64)).bind (fun z18 => some (z12 + z18)))) : Option (Int64)).bind (fun z9 => if am_inb a5 25 = true then if am_inb a5 25 = true then if am_inb a6 25 = true then ((if (M.1 728 o0a a5.toNatClampNeg a6.toNatClampNeg) = 0 then some (0 : Int64) else (if a5 = 0 then some z9 else (if a6 ≤ (a1 * (a5 - a6)) then some (0 : Int64) else some z9))) : Option (Int64)).bind (fun z28 => if am_inb a6 25 = true then am_let (am_sl M 730 o0a a5.toNatClampNeg a6.toNatClampNeg z28) (fun M35 => (f_X5_isSureAt M35 o0a a5 a6).bind (fun r37 => ((if r37 = 0 then (if a2 = 0 then some (a3, M35) else (if a5 = (M35.1 5 o0a 0 29) then if am_inb a5 25 = true then if am_inb a6 25 = true then if am_inb a5 25 = true then if am_inb a6 25 = true then am_let (a3 + ((M35.2 730 o0a a5.toNatClampNeg a6.toNatClampNeg) * (M35.2 731 o0a a5.toNatClampNeg a6.toNatClampNeg))) (fun v53 => if am_inb a5 25 = true then if am_inb a6 25 = true then am_let (am_sl M35 730 o0a a5.toNatClampNeg a6.toNatClampNeg (0 : Int64)) (fun M56 => some (v53, M56)) else none else none) else none else none else none else none else some (a3, M35))) else if am_inb a5 25 = true then if am_inb a6 25 = true then if am_inb a5 25 = true then if am_inb a6 25 = true then am_let (a3 + ((M35.2 730 o0a a5.toNatClampNeg a6.toNatClampNeg) * (M35.2 731 o0a a5.toNatClampNeg a6.toNatClampNeg))) (fun v45 => if am_inb a5 25 = true then if am_inb a6 25 = true then am_let (am_sl M35 730 o0a a5.toNatClampNeg a6.toNatClampNeg (0 : Int64)) (fun M48 => some (v45, M48)) else none else none) else none else none else none else none) : Option (Int64 × am_M)).bind (fun z38 => am_let (a6 + (1 : Int32)) (fun v60 => l_X5_countSurely_40 o0a a1 a2 a5 n z38.1 v60 z38.2)))) else none) else none else none else none))
set_option maxHeartbeats 4000000 in
theorem wl_X5_countSurely_40 {K : am_K} {d : Nat} {post : Option am_V → am_M → Prop} {o0a : Nat} {a1 : Int32} {a2 : Int32} {a5 : Int32} : ∀ (n : Nat) (a3 : Int64) (a6 : Int32) (M : am_M) (x : Int64 × am_M), l_X5_countSurely_40 o0a a1 a2 a5 n a3 a6 M = some x → am_W K (d + 1) m_X5_countSurely 216 [(0, .inr (.inr (5, o0a, 0))), (1, .inl a1), (2, .inl a2), (3, .inr (.inl x.1)), (5, .inl a5)] [] x.2 post → am_W K (d + 1) m_X5_countSurely 40 [(0, .inr (.inr (5, o0a, 0))), (1, .inl a1), (2, .inl a2), (3, .inr (.inl a3)), (5, .inl a5), (6, .inl a6)] [] M post := by
  intro n
  induction n with
  | zero => intro a3 a6 M x h KX; cases h
  | succ n ih =>
    intro a3 a6 M x h KX
    rw [l_X5_countSurely_40] at h
    refine am_iload dX5_countSurely_40 rfl ?_
    refine am_iload dX5_countSurely_42 rfl ?_
    refine am_icmp_gt 216 dX5_countSurely_44 rfl (fun b61 => ?_) (fun b61 => ?_)
    · replace h := am_ifT b61 h
      obtain rfl := Option.some.inj h
      exact am_drop [0, 1, 2, 3, 5] rfl KX
    · replace h := am_ifF b61 h
      refine am_iload dX5_countSurely_47 rfl ?_
      obtain ⟨z9, h10, h⟩ := am_bnd h
      have KK11 : am_W K (d + 1) m_X5_countSurely 103 [(0, .inr (.inr (5, o0a, 0))), (1, .inl a1), (2, .inl a2), (3, .inr (.inl a3)), (5, .inl a5), (6, .inl a6)] [.inr (.inl z9)] M post := by
        refine am_lstore (ls' := [(0, .inr (.inr (5, o0a, 0))), (1, .inl a1), (2, .inl a2), (3, .inr (.inl a3)), (5, .inl a5), (6, .inl a6), (7, .inr (.inl z9))]) dX5_countSurely_103 (Nat.le_of_ble_eq_true rfl) rfl ?_
        refine am_aload_n dX5_countSurely_105 rfl ?_
        refine am_getR (o' := o0a) dX5_countSurely_106 fl_RX5_69 sh_5 rfl rfl hk_5 ?_
        refine am_iload dX5_countSurely_109 rfl ?_
        obtain ⟨g25, h⟩ := am_grd h
        refine am_aaload dX5_countSurely_111 sh_630 rfl rfl hk_630 (am_inbE g25) ?_
        refine am_top (w := .inr (.inr (730, o0a, a5.toNatClampNeg))) rfl ?_
        refine am_iload dX5_countSurely_112 rfl ?_
        refine am_aload_n dX5_countSurely_114 rfl ?_
        refine am_getR (o' := o0a) dX5_countSurely_115 fl_RX5_66 sh_5 rfl rfl hk_5 ?_
        refine am_iload dX5_countSurely_118 rfl ?_
        obtain ⟨g26, h⟩ := am_grd h
        refine am_aaload dX5_countSurely_120 sh_628 rfl rfl hk_628 (am_inbE g26) ?_
        refine am_top (w := .inr (.inr (728, o0a, a5.toNatClampNeg))) rfl ?_
        refine am_iload dX5_countSurely_121 rfl ?_
        obtain ⟨g27, h⟩ := am_grd h
        refine am_zaload dX5_countSurely_123 sh_728 hk_728 (am_inbE g27) ?_
        obtain ⟨z28, h29, h⟩ := am_bnd h
        have KK30 : am_W K (d + 1) m_X5_countSurely 150 [(0, .inr (.inr (5, o0a, 0))), (1, .inl a1), (2, .inl a2), (3, .inr (.inl a3)), (5, .inl a5), (6, .inl a6)] [.inr (.inl z28), .inl a6, .inr (.inr (730, o0a, a5.toNatClampNeg))] M post := by
          obtain ⟨g34, h⟩ := am_grd h
          obtain ⟨M35, eM35, h⟩ := am_letE h
          refine am_lastore dX5_countSurely_150 sh_730 hk_730 (am_inbE g34) ?_
          refine am_mem eM35 ?_
          refine am_aload_n dX5_countSurely_151 rfl ?_
          refine am_iload dX5_countSurely_152 rfl ?_
          refine am_iload dX5_countSurely_154 rfl ?_
          obtain ⟨r37, c36, h⟩ := am_bnd h
          refine am_callVi (as := [.inl a5, .inl a6]) dX5_countSurely_156 cv_RX5_307 cb_X5_isSureAt sh_5 rfl hk_5 rfl rfl (Nat.le_of_ble_eq_true rfl) (c_X5_isSureAt c36) ?_
          obtain ⟨z38, h39, h⟩ := am_bnd h
          have KK40 : am_W K (d + 1) m_X5_countSurely 210 [(0, .inr (.inr (5, o0a, 0))), (1, .inl a1), (2, .inl a2), (3, .inr (.inl z38.1)), (5, .inl a5), (6, .inl a6)] [] z38.2 post := by
            obtain ⟨v60, ev60, h⟩ := am_letE h
            refine am_iinc (ls' := [(0, .inr (.inr (5, o0a, 0))), (1, .inl a1), (2, .inl a2), (3, .inr (.inl z38.1)), (5, .inl a5), (6, .inl v60)]) dX5_countSurely_210 rfl ((congrArg (fun z => a6 + z) ic_1).trans ev60.symm) (Nat.le_of_ble_eq_true rfl) rfl ?_
            refine am_goto 40 dX5_countSurely_213 rfl ?_
            exact am_drop [0, 1, 2, 3, 5, 6] rfl (ih _ _ _ _ h KX)
          clear h
          refine am_if_ne 175 dX5_countSurely_159 rfl (fun b59 => ?_) (fun b59 => ?_)
          · replace h39 := am_ifF b59 h39
            refine am_lload_n dX5_countSurely_175 rfl ?_
            refine am_aload_n dX5_countSurely_176 rfl ?_
            refine am_getR (o' := o0a) dX5_countSurely_177 fl_RX5_69 sh_5 rfl rfl hk_5 ?_
            refine am_iload dX5_countSurely_180 rfl ?_
            obtain ⟨g41, h39⟩ := am_grd h39
            refine am_aaload dX5_countSurely_182 sh_630 rfl rfl hk_630 (am_inbE g41) ?_
            refine am_top (w := .inr (.inr (730, o0a, a5.toNatClampNeg))) rfl ?_
            refine am_iload dX5_countSurely_183 rfl ?_
            obtain ⟨g42, h39⟩ := am_grd h39
            refine am_laload dX5_countSurely_185 sh_730 hk_730 (am_inbE g42) ?_
            refine am_aload_n dX5_countSurely_186 rfl ?_
            refine am_getR (o' := o0a) dX5_countSurely_187 fl_RX5_72 sh_5 rfl rfl hk_5 ?_
            refine am_iload dX5_countSurely_190 rfl ?_
            obtain ⟨g43, h39⟩ := am_grd h39
            refine am_aaload dX5_countSurely_192 sh_631 rfl rfl hk_631 (am_inbE g43) ?_
            refine am_top (w := .inr (.inr (731, o0a, a5.toNatClampNeg))) rfl ?_
            refine am_iload dX5_countSurely_193 rfl ?_
            obtain ⟨g44, h39⟩ := am_grd h39
            refine am_laload dX5_countSurely_195 sh_731 hk_731 (am_inbE g44) ?_
            refine am_lmul dX5_countSurely_196 ?_
            refine am_ladd dX5_countSurely_197 ?_
            obtain ⟨v45, ev45, h39⟩ := am_letE h39
            refine am_topL ev45 ?_
            refine am_lstore_n (ls' := [(0, .inr (.inr (5, o0a, 0))), (1, .inl a1), (2, .inl a2), (3, .inr (.inl v45)), (5, .inl a5), (6, .inl a6)]) dX5_countSurely_198 (Nat.le_of_ble_eq_true rfl) rfl ?_
            refine am_aload_n dX5_countSurely_199 rfl ?_
            refine am_getR (o' := o0a) dX5_countSurely_200 fl_RX5_69 sh_5 rfl rfl hk_5 ?_
            refine am_iload dX5_countSurely_203 rfl ?_
            obtain ⟨g46, h39⟩ := am_grd h39
            refine am_aaload dX5_countSurely_205 sh_630 rfl rfl hk_630 (am_inbE g46) ?_
            refine am_top (w := .inr (.inr (730, o0a, a5.toNatClampNeg))) rfl ?_
            refine am_iload dX5_countSurely_206 rfl ?_
            refine am_lconst dX5_countSurely_208 lc_0 ?_
            obtain ⟨g47, h39⟩ := am_grd h39
            obtain ⟨M48, eM48, h39⟩ := am_letE h39
            refine am_lastore dX5_countSurely_209 sh_730 hk_730 (am_inbE g47) ?_
            refine am_mem eM48 ?_
            obtain rfl := Option.some.inj h39
            exact am_drop [0, 1, 2, 3, 5, 6] rfl KK40
          · replace h39 := am_ifT b59 h39
            refine am_iload_n dX5_countSurely_162 rfl ?_
            refine am_if_eq 210 dX5_countSurely_163 rfl (fun b58 => ?_) (fun b58 => ?_)
            · replace h39 := am_ifT b58 h39
              obtain rfl := Option.some.inj h39
              exact am_drop [0, 1, 2, 3, 5, 6] rfl KK40
            · replace h39 := am_ifF b58 h39
              refine am_iload dX5_countSurely_166 rfl ?_
              refine am_aload_n dX5_countSurely_168 rfl ?_
              refine am_getI dX5_countSurely_169 fl_RX5_254 sh_5 rfl hk_5 ?_
              refine am_icmp_ne 210 dX5_countSurely_172 rfl (fun b57 => ?_) (fun b57 => ?_)
              · replace h39 := am_ifF b57 h39
                obtain rfl := Option.some.inj h39
                exact am_drop [0, 1, 2, 3, 5, 6] rfl KK40
              · replace h39 := am_ifT b57 h39
                refine am_lload_n dX5_countSurely_175 rfl ?_
                refine am_aload_n dX5_countSurely_176 rfl ?_
                refine am_getR (o' := o0a) dX5_countSurely_177 fl_RX5_69 sh_5 rfl rfl hk_5 ?_
                refine am_iload dX5_countSurely_180 rfl ?_
                obtain ⟨g49, h39⟩ := am_grd h39
                refine am_aaload dX5_countSurely_182 sh_630 rfl rfl hk_630 (am_inbE g49) ?_
                refine am_top (w := .inr (.inr (730, o0a, a5.toNatClampNeg))) rfl ?_
                refine am_iload dX5_countSurely_183 rfl ?_
                obtain ⟨g50, h39⟩ := am_grd h39
                refine am_laload dX5_countSurely_185 sh_730 hk_730 (am_inbE g50) ?_
                refine am_aload_n dX5_countSurely_186 rfl ?_
                refine am_getR (o' := o0a) dX5_countSurely_187 fl_RX5_72 sh_5 rfl rfl hk_5 ?_
                refine am_iload dX5_countSurely_190 rfl ?_
                obtain ⟨g51, h39⟩ := am_grd h39
                refine am_aaload dX5_countSurely_192 sh_631 rfl rfl hk_631 (am_inbE g51) ?_
                refine am_top (w := .inr (.inr (731, o0a, a5.toNatClampNeg))) rfl ?_
                refine am_iload dX5_countSurely_193 rfl ?_
                obtain ⟨g52, h39⟩ := am_grd h39
                refine am_laload dX5_countSurely_195 sh_731 hk_731 (am_inbE g52) ?_
                refine am_lmul dX5_countSurely_196 ?_
                refine am_ladd dX5_countSurely_197 ?_
                obtain ⟨v53, ev53, h39⟩ := am_letE h39
                refine am_topL ev53 ?_
                refine am_lstore_n (ls' := [(0, .inr (.inr (5, o0a, 0))), (1, .inl a1), (2, .inl a2), (3, .inr (.inl v53)), (5, .inl a5), (6, .inl a6)]) dX5_countSurely_198 (Nat.le_of_ble_eq_true rfl) rfl ?_
                refine am_aload_n dX5_countSurely_199 rfl ?_
                refine am_getR (o' := o0a) dX5_countSurely_200 fl_RX5_69 sh_5 rfl rfl hk_5 ?_
                refine am_iload dX5_countSurely_203 rfl ?_
                obtain ⟨g54, h39⟩ := am_grd h39
                refine am_aaload dX5_countSurely_205 sh_630 rfl rfl hk_630 (am_inbE g54) ?_
                refine am_top (w := .inr (.inr (730, o0a, a5.toNatClampNeg))) rfl ?_
                refine am_iload dX5_countSurely_206 rfl ?_
                refine am_lconst dX5_countSurely_208 lc_0 ?_
                obtain ⟨g55, h39⟩ := am_grd h39
                obtain ⟨M56, eM56, h39⟩ := am_letE h39
                refine am_lastore dX5_countSurely_209 sh_730 hk_730 (am_inbE g55) ?_
                refine am_mem eM56 ?_
                obtain rfl := Option.some.inj h39
                exact am_drop [0, 1, 2, 3, 5, 6] rfl KK40
        clear h
        refine am_if_eq 149 dX5_countSurely_124 rfl (fun b33 => ?_) (fun b33 => ?_)
        · replace h29 := am_ifT b33 h29
          refine am_lconst dX5_countSurely_149 lc_0 ?_
          obtain rfl := Option.some.inj h29
          exact am_drop [0, 1, 2, 3, 5, 6] rfl KK30
        · replace h29 := am_ifF b33 h29
          refine am_iload dX5_countSurely_127 rfl ?_
          refine am_if_eq 144 dX5_countSurely_129 rfl (fun b32 => ?_) (fun b32 => ?_)
          · replace h29 := am_ifT b32 h29
            refine am_lload dX5_countSurely_144 rfl ?_
            refine am_goto 150 dX5_countSurely_146 rfl ?_
            obtain rfl := Option.some.inj h29
            exact am_drop [0, 1, 2, 3, 5, 6] rfl KK30
          · replace h29 := am_ifF b32 h29
            refine am_iload dX5_countSurely_132 rfl ?_
            refine am_iload_n dX5_countSurely_134 rfl ?_
            refine am_iload dX5_countSurely_135 rfl ?_
            refine am_iload dX5_countSurely_137 rfl ?_
            refine am_isub dX5_countSurely_139 ?_
            refine am_imul dX5_countSurely_140 ?_
            refine am_icmp_le 149 dX5_countSurely_141 rfl (fun b31 => ?_) (fun b31 => ?_)
            · replace h29 := am_ifT b31 h29
              refine am_lconst dX5_countSurely_149 lc_0 ?_
              obtain rfl := Option.some.inj h29
              exact am_drop [0, 1, 2, 3, 5, 6] rfl KK30
            · replace h29 := am_ifF b31 h29
              refine am_lload dX5_countSurely_144 rfl ?_
              refine am_goto 150 dX5_countSurely_146 rfl ?_
              obtain rfl := Option.some.inj h29
              exact am_drop [0, 1, 2, 3, 5, 6] rfl KK30
      clear h
      refine am_if_ne 56 dX5_countSurely_49 rfl (fun b24 => ?_) (fun b24 => ?_)
      · replace h10 := am_ifF b24 h10
        refine am_iload dX5_countSurely_56 rfl ?_
        obtain ⟨z12, h13, h10⟩ := am_bnd h10
        have KK14 : am_W K (d + 1) m_X5_countSurely 79 [(0, .inr (.inr (5, o0a, 0))), (1, .inl a1), (2, .inl a2), (3, .inr (.inl a3)), (5, .inl a5), (6, .inl a6)] [.inr (.inl z12)] M post := by
          refine am_iload dX5_countSurely_79 rfl ?_
          refine am_iload dX5_countSurely_81 rfl ?_
          obtain ⟨z18, h19, h10⟩ := am_bnd h10
          have KK20 : am_W K (d + 1) m_X5_countSurely 102 [(0, .inr (.inr (5, o0a, 0))), (1, .inl a1), (2, .inl a2), (3, .inr (.inl a3)), (5, .inl a5), (6, .inl a6)] [.inr (.inl z18), .inr (.inl z12)] M post := by
            refine am_ladd dX5_countSurely_102 ?_
            obtain rfl := Option.some.inj h10
            exact am_drop [0, 1, 2, 3, 5, 6] rfl KK11
          clear h10
          refine am_icmp_ge 101 dX5_countSurely_83 rfl (fun b23 => ?_) (fun b23 => ?_)
          · replace h19 := am_ifT b23 h19
            refine am_lconst dX5_countSurely_101 lc_0 ?_
            obtain rfl := Option.some.inj h19
            exact am_drop [0, 1, 2, 3, 5, 6] rfl KK20
          · replace h19 := am_ifF b23 h19
            refine am_aload_n dX5_countSurely_86 rfl ?_
            refine am_getR (o' := o0a) dX5_countSurely_87 fl_RX5_69 sh_5 rfl rfl hk_5 ?_
            refine am_iload dX5_countSurely_90 rfl ?_
            refine am_iconst dX5_countSurely_92 ic_1 ?_
            refine am_isub dX5_countSurely_93 ?_
            obtain ⟨g21, h19⟩ := am_grd h19
            refine am_aaload dX5_countSurely_94 sh_630 rfl rfl hk_630 (am_inbE g21) ?_
            refine am_top (w := .inr (.inr (730, o0a, (a5 - (1 : Int32)).toNatClampNeg))) rfl ?_
            refine am_iload dX5_countSurely_95 rfl ?_
            obtain ⟨g22, h19⟩ := am_grd h19
            refine am_laload dX5_countSurely_97 sh_730 hk_730 (am_inbE g22) ?_
            refine am_goto 102 dX5_countSurely_98 rfl ?_
            obtain rfl := Option.some.inj h19
            exact am_drop [0, 1, 2, 3, 5, 6] rfl KK20
        clear h10
        refine am_if_le 78 dX5_countSurely_58 rfl (fun b17 => ?_) (fun b17 => ?_)
        · replace h13 := am_ifT b17 h13
          refine am_lconst dX5_countSurely_78 lc_0 ?_
          obtain rfl := Option.some.inj h13
          exact am_drop [0, 1, 2, 3, 5, 6] rfl KK14
        · replace h13 := am_ifF b17 h13
          refine am_aload_n dX5_countSurely_61 rfl ?_
          refine am_getR (o' := o0a) dX5_countSurely_62 fl_RX5_69 sh_5 rfl rfl hk_5 ?_
          refine am_iload dX5_countSurely_65 rfl ?_
          refine am_iconst dX5_countSurely_67 ic_1 ?_
          refine am_isub dX5_countSurely_68 ?_
          obtain ⟨g15, h13⟩ := am_grd h13
          refine am_aaload dX5_countSurely_69 sh_630 rfl rfl hk_630 (am_inbE g15) ?_
          refine am_top (w := .inr (.inr (730, o0a, (a5 - (1 : Int32)).toNatClampNeg))) rfl ?_
          refine am_iload dX5_countSurely_70 rfl ?_
          refine am_iconst dX5_countSurely_72 ic_1 ?_
          refine am_isub dX5_countSurely_73 ?_
          obtain ⟨g16, h13⟩ := am_grd h13
          refine am_laload dX5_countSurely_74 sh_730 hk_730 (am_inbE g16) ?_
          refine am_goto 79 dX5_countSurely_75 rfl ?_
          obtain rfl := Option.some.inj h13
          exact am_drop [0, 1, 2, 3, 5, 6] rfl KK14
      · replace h10 := am_ifT b24 h10
        refine am_lconst dX5_countSurely_52 lc_1 ?_
        refine am_goto 103 dX5_countSurely_53 rfl ?_
        obtain rfl := Option.some.inj h10
        exact am_drop [0, 1, 2, 3, 5, 6] rfl KK11
def l_X5_countSurely_28 (o0a : Nat) (a1 : Int32) (a2 : Int32) : Nat → Int64 → Int32 → am_M → Option (Int64 × am_M)
  | 0, _, _, _ => none
  | n + 1, a3, a5, M => (if (M.1 5 o0a 0 29) < a5 then some (a3, M) else (l_X5_countSurely_40 o0a a1 a2 a5 1000 a3 (0 : Int32) M).bind (fun z62 => am_let (a5 + (1 : Int32)) (fun v65 => l_X5_countSurely_28 o0a a1 a2 n z62.1 v65 z62.2)))
set_option maxHeartbeats 4000000 in
theorem wl_X5_countSurely_28 {K : am_K} {d : Nat} {post : Option am_V → am_M → Prop} {o0a : Nat} {a1 : Int32} {a2 : Int32} : ∀ (n : Nat) (a3 : Int64) (a5 : Int32) (M : am_M) (x : Int64 × am_M), l_X5_countSurely_28 o0a a1 a2 n a3 a5 M = some x → am_W K (d + 1) m_X5_countSurely 222 [(3, .inr (.inl x.1))] [] x.2 post → am_W K (d + 1) m_X5_countSurely 28 [(0, .inr (.inr (5, o0a, 0))), (1, .inl a1), (2, .inl a2), (3, .inr (.inl a3)), (5, .inl a5)] [] M post := by
  intro n
  induction n with
  | zero => intro a3 a5 M x h KX; cases h
  | succ n ih =>
    intro a3 a5 M x h KX
    rw [l_X5_countSurely_28] at h
    refine am_iload dX5_countSurely_28 rfl ?_
    refine am_aload_n dX5_countSurely_30 rfl ?_
    refine am_getI dX5_countSurely_31 fl_RX5_254 sh_5 rfl hk_5 ?_
    refine am_icmp_gt 222 dX5_countSurely_34 rfl (fun b66 => ?_) (fun b66 => ?_)
    · replace h := am_ifT b66 h
      obtain rfl := Option.some.inj h
      exact am_drop [3] rfl KX
    · replace h := am_ifF b66 h
      refine am_iconst dX5_countSurely_37 ic_0 ?_
      refine am_istore (ls' := [(0, .inr (.inr (5, o0a, 0))), (1, .inl a1), (2, .inl a2), (3, .inr (.inl a3)), (5, .inl a5), (6, .inl (0 : Int32))]) dX5_countSurely_38 (Nat.le_of_ble_eq_true rfl) rfl ?_
      obtain ⟨z62, h63, h⟩ := am_bnd h
      have KK64 : am_W K (d + 1) m_X5_countSurely 216 [(0, .inr (.inr (5, o0a, 0))), (1, .inl a1), (2, .inl a2), (3, .inr (.inl z62.1)), (5, .inl a5)] [] z62.2 post := by
        obtain ⟨v65, ev65, h⟩ := am_letE h
        refine am_iinc (ls' := [(0, .inr (.inr (5, o0a, 0))), (1, .inl a1), (2, .inl a2), (3, .inr (.inl z62.1)), (5, .inl v65)]) dX5_countSurely_216 rfl ((congrArg (fun z => a5 + z) ic_1).trans ev65.symm) (Nat.le_of_ble_eq_true rfl) rfl ?_
        refine am_goto 28 dX5_countSurely_219 rfl ?_
        exact am_drop [0, 1, 2, 3, 5] rfl (ih _ _ _ _ h KX)
      exact am_drop [0, 1, 2, 3, 5, 6] rfl (wl_X5_countSurely_40 _ _ _ _ _ h63 KK64)
def f_X5_countSurely (M : am_M) (o : Nat) (x1 : Int32) : Option (Int64 × am_M) :=
  (f_X5_allA M o).bind (fun r2 => ((if ((2 : Int32) * r2) = (M.1 5 o 0 29) then some (1 : Int32) else some (0 : Int32)) : Option (Int32)).bind (fun z3 => (f_X5_countBack M o).bind (fun r8 => (l_X5_countSurely_28 o x1 z3 1000 (0 : Int64) (0 : Int32) r8).bind (fun z67 => some (z67.1, z67.2)))))
set_option maxHeartbeats 4000000 in
theorem w_X5_countSurely {K : am_K} {d : Nat} {post : Option am_V → am_M → Prop} {M : am_M} {o : Nat} {x1 : Int32} {y : Int64 × am_M} (h : f_X5_countSurely M o x1 = some y) (hp : post (some (.inr (.inl y.1))) y.2) : am_W K (d + 1) m_X5_countSurely 0 [(0, .inr (.inr (5, o, 0))), (1, .inl x1)] [] M post := by
  unfold f_X5_countSurely at h
  refine am_iconst dX5_countSurely_0 ic_2 ?_
  refine am_aload_n dX5_countSurely_1 rfl ?_
  obtain ⟨r2, c1, h⟩ := am_bnd h
  refine am_callVi (as := []) dX5_countSurely_2 cv_RX5_133 cb_X5_allA sh_5 rfl hk_5 rfl rfl (Nat.le_of_ble_eq_true rfl) (c_X5_allA c1) ?_
  refine am_imul dX5_countSurely_5 ?_
  refine am_aload_n dX5_countSurely_6 rfl ?_
  refine am_getI dX5_countSurely_7 fl_RX5_254 sh_5 rfl hk_5 ?_
  obtain ⟨z3, h4, h⟩ := am_bnd h
  have KK5 : am_W K (d + 1) m_X5_countSurely 18 [(0, .inr (.inr (5, o, 0))), (1, .inl x1)] [.inl z3] M post := by
    refine am_istore_n (ls' := [(0, .inr (.inr (5, o, 0))), (1, .inl x1), (2, .inl z3)]) dX5_countSurely_18 (Nat.le_of_ble_eq_true rfl) rfl ?_
    refine am_aload_n dX5_countSurely_19 rfl ?_
    obtain ⟨r8, c7, h⟩ := am_bnd h
    refine am_callVv (as := []) dX5_countSurely_20 cv_RX5_304 cb_X5_countBack sh_5 rfl hk_5 rfl rfl (Nat.le_of_ble_eq_true rfl) (c_X5_countBack c7) ?_
    refine am_lconst dX5_countSurely_23 lc_0 ?_
    refine am_lstore_n (ls' := [(0, .inr (.inr (5, o, 0))), (1, .inl x1), (2, .inl z3), (3, .inr (.inl (0 : Int64)))]) dX5_countSurely_24 (Nat.le_of_ble_eq_true rfl) rfl ?_
    refine am_iconst dX5_countSurely_25 ic_0 ?_
    refine am_istore (ls' := [(0, .inr (.inr (5, o, 0))), (1, .inl x1), (2, .inl z3), (3, .inr (.inl (0 : Int64))), (5, .inl (0 : Int32))]) dX5_countSurely_26 (Nat.le_of_ble_eq_true rfl) rfl ?_
    obtain ⟨z67, h68, h⟩ := am_bnd h
    have KK69 : am_W K (d + 1) m_X5_countSurely 222 [(3, .inr (.inl z67.1))] [] z67.2 post := by
      refine am_lload_n dX5_countSurely_222 rfl ?_
      obtain rfl := Option.some.inj h
      exact am_lreturn dX5_countSurely_223 rfl hp
    exact am_drop [0, 1, 2, 3, 5] rfl (wl_X5_countSurely_28 _ _ _ _ _ h68 KK69)
  clear h
  refine am_icmp_ne 17 dX5_countSurely_10 rfl (fun b6 => ?_) (fun b6 => ?_)
  · replace h4 := am_ifF b6 h4
    refine am_iconst dX5_countSurely_17 ic_0 ?_
    obtain rfl := Option.some.inj h4
    exact am_drop [0, 1] rfl KK5
  · replace h4 := am_ifT b6 h4
    refine am_iconst dX5_countSurely_13 ic_1 ?_
    refine am_goto 18 dX5_countSurely_14 rfl ?_
    obtain rfl := Option.some.inj h4
    exact am_drop [0, 1] rfl KK5
theorem c_X5_countSurely {K : am_K} {d : Nat} {M : am_M} {o : Nat} {x1 : Int32} {y : Int64 × am_M} (h : f_X5_countSurely M o x1 = some y) : am_Met K (d + 1) m_X5_countSurely [.inr (.inr (5, o, 0)), .inl x1] M (fun q N => q = some (.inr (.inl y.1)) ∧ N = y.2) :=
  am_Met_of cb_X5_countSurely (Nat.le_of_ble_eq_true rfl) (w_X5_countSurely h ⟨rfl, rfl⟩)
def l_X5_all_7 (M : am_M) (o0a : Nat) : Nat → Int32 → Int32 → Option (Int32)
  | 0, _, _ => none
  | n + 1, a1, a2 => (if (M.1 5 o0a 0 10) ≤ a2 then some a1 else if am_inb a2 4 = true then am_let (a1 + (M.1 612 o0a 0 a2.toNatClampNeg)) (fun v4 => am_let (a2 + (1 : Int32)) (fun v5 => l_X5_all_7 M o0a n v4 v5)) else none)
set_option maxHeartbeats 4000000 in
theorem wl_X5_all_7 {K : am_K} {d : Nat} {post : Option am_V → am_M → Prop} {M : am_M} {o0a : Nat} : ∀ (n : Nat) (a1 : Int32) (a2 : Int32) (x : Int32), l_X5_all_7 M o0a n a1 a2 = some x → am_W K (d + 1) m_X5_all 30 [(1, .inl x)] [] M post → am_W K (d + 1) m_X5_all 7 [(0, .inr (.inr (5, o0a, 0))), (1, .inl a1), (2, .inl a2)] [] M post := by
  intro n
  induction n with
  | zero => intro a1 a2 x h KX; cases h
  | succ n ih =>
    intro a1 a2 x h KX
    rw [l_X5_all_7] at h
    refine am_iload_n dX5_all_7 rfl ?_
    refine am_aload_n dX5_all_8 rfl ?_
    refine am_getI dX5_all_9 fl_RX5_130 sh_5 rfl hk_5 ?_
    refine am_icmp_ge 30 dX5_all_12 rfl (fun b6 => ?_) (fun b6 => ?_)
    · replace h := am_ifT b6 h
      obtain rfl := Option.some.inj h
      exact am_drop [1] rfl KX
    · replace h := am_ifF b6 h
      refine am_iload_n dX5_all_15 rfl ?_
      refine am_aload_n dX5_all_16 rfl ?_
      refine am_getR (o' := o0a) dX5_all_17 fl_RX5_43 sh_5 rfl rfl hk_5 ?_
      refine am_iload_n dX5_all_20 rfl ?_
      obtain ⟨g3, h⟩ := am_grd h
      refine am_iaload dX5_all_21 sh_612 hk_612 (am_inbE g3) ?_
      refine am_iadd dX5_all_22 ?_
      obtain ⟨v4, ev4, h⟩ := am_letE h
      refine am_topI ev4 ?_
      refine am_istore_n (ls' := [(0, .inr (.inr (5, o0a, 0))), (1, .inl v4), (2, .inl a2)]) dX5_all_23 (Nat.le_of_ble_eq_true rfl) rfl ?_
      obtain ⟨v5, ev5, h⟩ := am_letE h
      refine am_iinc (ls' := [(0, .inr (.inr (5, o0a, 0))), (1, .inl v4), (2, .inl v5)]) dX5_all_24 rfl ((congrArg (fun z => a2 + z) ic_1).trans ev5.symm) (Nat.le_of_ble_eq_true rfl) rfl ?_
      refine am_goto 7 dX5_all_27 rfl ?_
      exact am_drop [0, 1, 2] rfl (ih _ _ _ h KX)
def f_X5_all (M : am_M) (o : Nat) : Option (Int32) :=
  (f_X5_allA M o).bind (fun r2 => (l_X5_all_7 M o 1000 r2 (0 : Int32)).bind (fun z7 => some z7))
set_option maxHeartbeats 4000000 in
theorem w_X5_all {K : am_K} {d : Nat} {post : Option am_V → am_M → Prop} {M : am_M} {o : Nat} {y : Int32} (h : f_X5_all M o = some y) (hp : post (some (.inl y)) M) : am_W K (d + 1) m_X5_all 0 [(0, .inr (.inr (5, o, 0)))] [] M post := by
  unfold f_X5_all at h
  refine am_aload_n dX5_all_0 rfl ?_
  obtain ⟨r2, c1, h⟩ := am_bnd h
  refine am_callVi (as := []) dX5_all_1 cv_RX5_133 cb_X5_allA sh_5 rfl hk_5 rfl rfl (Nat.le_of_ble_eq_true rfl) (c_X5_allA c1) ?_
  refine am_istore_n (ls' := [(0, .inr (.inr (5, o, 0))), (1, .inl r2)]) dX5_all_4 (Nat.le_of_ble_eq_true rfl) rfl ?_
  refine am_iconst dX5_all_5 ic_0 ?_
  refine am_istore_n (ls' := [(0, .inr (.inr (5, o, 0))), (1, .inl r2), (2, .inl (0 : Int32))]) dX5_all_6 (Nat.le_of_ble_eq_true rfl) rfl ?_
  obtain ⟨z7, h8, h⟩ := am_bnd h
  have KK9 : am_W K (d + 1) m_X5_all 30 [(1, .inl z7)] [] M post := by
    refine am_iload_n dX5_all_30 rfl ?_
    obtain rfl := Option.some.inj h
    exact am_ireturn dX5_all_31 rfl rfl hp
  exact am_drop [0, 1, 2] rfl (wl_X5_all_7 _ _ _ _ h8 KK9)
theorem c_X5_all {K : am_K} {d : Nat} {M : am_M} {o : Nat} {y : Int32} (h : f_X5_all M o = some y) : am_Met K (d + 1) m_X5_all [.inr (.inr (5, o, 0))] M (fun q N => q = some (.inl y) ∧ N = M) :=
  am_Met_of cb_X5_all (Nat.le_of_ble_eq_true rfl) (w_X5_all h ⟨rfl, rfl⟩)
def l_X5_seeHeaps_18 (o0a : Nat) (a1 : Int32) : Nat → Int32 → am_M → Option (am_M)
  | 0, _, _ => none
  | n + 1, a2, M => (if (24 : Int32) < a2 then some M else if am_inb a1 25 = true then if am_inb a2 25 = true then am_let (am_si M 728 o0a a1.toNatClampNeg a2.toNatClampNeg (0 : Int32)) (fun M6 => am_let (a2 + (1 : Int32)) (fun v7 => l_X5_seeHeaps_18 o0a a1 n v7 M6)) else none else none)
set_option maxHeartbeats 4000000 in
theorem wl_X5_seeHeaps_18 {K : am_K} {d : Nat} {post : Option am_V → am_M → Prop} {o0a : Nat} {a1 : Int32} : ∀ (n : Nat) (a2 : Int32) (M : am_M) (x : am_M), l_X5_seeHeaps_18 o0a a1 n a2 M = some x → am_W K (d + 2) m_X5_seeHeaps 39 [(0, .inr (.inr (5, o0a, 0))), (1, .inl a1)] [] x post → am_W K (d + 2) m_X5_seeHeaps 18 [(0, .inr (.inr (5, o0a, 0))), (1, .inl a1), (2, .inl a2)] [] M post := by
  intro n
  induction n with
  | zero => intro a2 M x h KX; cases h
  | succ n ih =>
    intro a2 M x h KX
    rw [l_X5_seeHeaps_18] at h
    refine am_iload_n dX5_seeHeaps_18 rfl ?_
    refine am_bipush dX5_seeHeaps_19 bp_24 ?_
    refine am_icmp_gt 39 dX5_seeHeaps_21 rfl (fun b8 => ?_) (fun b8 => ?_)
    · replace h := am_ifT b8 h
      obtain rfl := Option.some.inj h
      exact am_drop [0, 1] rfl KX
    · replace h := am_ifF b8 h
      refine am_aload_n dX5_seeHeaps_24 rfl ?_
      refine am_getR (o' := o0a) dX5_seeHeaps_25 fl_RX5_66 sh_5 rfl rfl hk_5 ?_
      refine am_iload_n dX5_seeHeaps_28 rfl ?_
      obtain ⟨g4, h⟩ := am_grd h
      refine am_aaload dX5_seeHeaps_29 sh_628 rfl rfl hk_628 (am_inbE g4) ?_
      refine am_top (w := .inr (.inr (728, o0a, a1.toNatClampNeg))) rfl ?_
      refine am_iload_n dX5_seeHeaps_30 rfl ?_
      refine am_iconst dX5_seeHeaps_31 ic_0 ?_
      obtain ⟨g5, h⟩ := am_grd h
      obtain ⟨M6, eM6, h⟩ := am_letE h
      refine am_zastore dX5_seeHeaps_32 sh_728 hk_728 (am_inbE g5) (am_nrvZ (by decide)) ?_
      refine am_mem eM6 ?_
      obtain ⟨v7, ev7, h⟩ := am_letE h
      refine am_iinc (ls' := [(0, .inr (.inr (5, o0a, 0))), (1, .inl a1), (2, .inl v7)]) dX5_seeHeaps_33 rfl ((congrArg (fun z => a2 + z) ic_1).trans ev7.symm) (Nat.le_of_ble_eq_true rfl) rfl ?_
      refine am_goto 18 dX5_seeHeaps_36 rfl ?_
      exact am_drop [0, 1, 2] rfl (ih _ _ _ h KX)
def l_X5_seeHeaps_10 (o0a : Nat) : Nat → Int32 → am_M → Option (am_M)
  | 0, _, _ => none
  | n + 1, a1, M => (if (24 : Int32) < a1 then some M else (l_X5_seeHeaps_18 o0a a1 1000 (0 : Int32) M).bind (fun z9 => am_let (a1 + (1 : Int32)) (fun v12 => l_X5_seeHeaps_10 o0a n v12 z9)))
set_option maxHeartbeats 4000000 in
theorem wl_X5_seeHeaps_10 {K : am_K} {d : Nat} {post : Option am_V → am_M → Prop} {o0a : Nat} : ∀ (n : Nat) (a1 : Int32) (M : am_M) (x : am_M), l_X5_seeHeaps_10 o0a n a1 M = some x → am_W K (d + 2) m_X5_seeHeaps 45 [(0, .inr (.inr (5, o0a, 0)))] [] x post → am_W K (d + 2) m_X5_seeHeaps 10 [(0, .inr (.inr (5, o0a, 0))), (1, .inl a1)] [] M post := by
  intro n
  induction n with
  | zero => intro a1 M x h KX; cases h
  | succ n ih =>
    intro a1 M x h KX
    rw [l_X5_seeHeaps_10] at h
    refine am_iload_n dX5_seeHeaps_10 rfl ?_
    refine am_bipush dX5_seeHeaps_11 bp_24 ?_
    refine am_icmp_gt 45 dX5_seeHeaps_13 rfl (fun b13 => ?_) (fun b13 => ?_)
    · replace h := am_ifT b13 h
      obtain rfl := Option.some.inj h
      exact am_drop [0] rfl KX
    · replace h := am_ifF b13 h
      refine am_iconst dX5_seeHeaps_16 ic_0 ?_
      refine am_istore_n (ls' := [(0, .inr (.inr (5, o0a, 0))), (1, .inl a1), (2, .inl (0 : Int32))]) dX5_seeHeaps_17 (Nat.le_of_ble_eq_true rfl) rfl ?_
      obtain ⟨z9, h10, h⟩ := am_bnd h
      have KK11 : am_W K (d + 2) m_X5_seeHeaps 39 [(0, .inr (.inr (5, o0a, 0))), (1, .inl a1)] [] z9 post := by
        obtain ⟨v12, ev12, h⟩ := am_letE h
        refine am_iinc (ls' := [(0, .inr (.inr (5, o0a, 0))), (1, .inl v12)]) dX5_seeHeaps_39 rfl ((congrArg (fun z => a1 + z) ic_1).trans ev12.symm) (Nat.le_of_ble_eq_true rfl) rfl ?_
        refine am_goto 10 dX5_seeHeaps_42 rfl ?_
        exact am_drop [0, 1] rfl (ih _ _ _ h KX)
      exact am_drop [0, 1, 2] rfl (wl_X5_seeHeaps_18 _ _ _ _ h10 KK11)
def l_X5_seeHeaps_106 (o0a : Nat) (a1 : Int32) (a2 : Int32) (a3 : Int32) (a4 : Int32) (a5 : Int32) (a6 : Int32) : Nat → Int32 → am_M → Option (am_M)
  | 0, _, _ => none
  | n + 1, a7, M => if am_inb a4 4 = true then (if (M.1 611 o0a 0 a4.toNatClampNeg) < a7 then some M else (if a6 < a7 then some M else if am_inb (a1 + a6) 25 = true then if am_inb a4 4 = true then ((if (M.1 612 o0a 0 a4.toNatClampNeg) < (a6 - a7) then some (0 : Int32) else some (1 : Int32)) : Option (Int32)).bind (fun z26 => if am_inb (a2 + a7) 25 = true then if (z26 = 0 ∨ z26 = 1) then am_let (am_si M 728 o0a (a1 + a6).toNatClampNeg (a2 + a7).toNatClampNeg z26) (fun M32 => am_let (a7 + (1 : Int32)) (fun v33 => l_X5_seeHeaps_106 o0a a1 a2 a3 a4 a5 a6 n v33 M32)) else none else none) else none else none)) else none
set_option maxHeartbeats 4000000 in
theorem wl_X5_seeHeaps_106 {K : am_K} {d : Nat} {post : Option am_V → am_M → Prop} {o0a : Nat} {a1 : Int32} {a2 : Int32} {a3 : Int32} {a4 : Int32} {a5 : Int32} {a6 : Int32} : ∀ (n : Nat) (a7 : Int32) (M : am_M) (x : am_M), l_X5_seeHeaps_106 o0a a1 a2 a3 a4 a5 a6 n a7 M = some x → am_W K (d + 2) m_X5_seeHeaps 165 [(0, .inr (.inr (5, o0a, 0))), (1, .inl a1), (2, .inl a2), (3, .inl a3), (4, .inl a4), (5, .inl a5), (6, .inl a6)] [] x post → am_W K (d + 2) m_X5_seeHeaps 106 [(0, .inr (.inr (5, o0a, 0))), (1, .inl a1), (2, .inl a2), (3, .inl a3), (4, .inl a4), (5, .inl a5), (6, .inl a6), (7, .inl a7)] [] M post := by
  intro n
  induction n with
  | zero => intro a7 M x h KX; cases h
  | succ n ih =>
    intro a7 M x h KX
    rw [l_X5_seeHeaps_106] at h
    refine am_iload dX5_seeHeaps_106 rfl ?_
    refine am_aload_n dX5_seeHeaps_108 rfl ?_
    refine am_getR (o' := o0a) dX5_seeHeaps_109 fl_RX5_40 sh_5 rfl rfl hk_5 ?_
    refine am_iload dX5_seeHeaps_112 rfl ?_
    obtain ⟨g23, h⟩ := am_grd h
    refine am_iaload dX5_seeHeaps_114 sh_611 hk_611 (am_inbE g23) ?_
    refine am_icmp_gt 165 dX5_seeHeaps_115 rfl (fun b35 => ?_) (fun b35 => ?_)
    · replace h := am_ifT b35 h
      obtain rfl := Option.some.inj h
      exact am_drop [0, 1, 2, 3, 4, 5, 6] rfl KX
    · replace h := am_ifF b35 h
      refine am_iload dX5_seeHeaps_118 rfl ?_
      refine am_iload dX5_seeHeaps_120 rfl ?_
      refine am_icmp_gt 165 dX5_seeHeaps_122 rfl (fun b34 => ?_) (fun b34 => ?_)
      · replace h := am_ifT b34 h
        obtain rfl := Option.some.inj h
        exact am_drop [0, 1, 2, 3, 4, 5, 6] rfl KX
      · replace h := am_ifF b34 h
        refine am_aload_n dX5_seeHeaps_125 rfl ?_
        refine am_getR (o' := o0a) dX5_seeHeaps_126 fl_RX5_66 sh_5 rfl rfl hk_5 ?_
        refine am_iload_n dX5_seeHeaps_129 rfl ?_
        refine am_iload dX5_seeHeaps_130 rfl ?_
        refine am_iadd dX5_seeHeaps_132 ?_
        obtain ⟨g24, h⟩ := am_grd h
        refine am_aaload dX5_seeHeaps_133 sh_628 rfl rfl hk_628 (am_inbE g24) ?_
        refine am_top (w := .inr (.inr (728, o0a, (a1 + a6).toNatClampNeg))) rfl ?_
        refine am_iload_n dX5_seeHeaps_134 rfl ?_
        refine am_iload dX5_seeHeaps_135 rfl ?_
        refine am_iadd dX5_seeHeaps_137 ?_
        refine am_iload dX5_seeHeaps_138 rfl ?_
        refine am_iload dX5_seeHeaps_140 rfl ?_
        refine am_isub dX5_seeHeaps_142 ?_
        refine am_aload_n dX5_seeHeaps_143 rfl ?_
        refine am_getR (o' := o0a) dX5_seeHeaps_144 fl_RX5_43 sh_5 rfl rfl hk_5 ?_
        refine am_iload dX5_seeHeaps_147 rfl ?_
        obtain ⟨g25, h⟩ := am_grd h
        refine am_iaload dX5_seeHeaps_149 sh_612 hk_612 (am_inbE g25) ?_
        obtain ⟨z26, h27, h⟩ := am_bnd h
        have KK28 : am_W K (d + 2) m_X5_seeHeaps 158 [(0, .inr (.inr (5, o0a, 0))), (1, .inl a1), (2, .inl a2), (3, .inl a3), (4, .inl a4), (5, .inl a5), (6, .inl a6), (7, .inl a7)] [.inl z26, .inl (a2 + a7), .inr (.inr (728, o0a, (a1 + a6).toNatClampNeg))] M post := by
          obtain ⟨g30, h⟩ := am_grd h
          obtain ⟨g31, h⟩ := am_grd h
          obtain ⟨M32, eM32, h⟩ := am_letE h
          refine am_zastore dX5_seeHeaps_158 sh_728 hk_728 (am_inbE g30) (am_nrvZ g31) ?_
          refine am_mem eM32 ?_
          obtain ⟨v33, ev33, h⟩ := am_letE h
          refine am_iinc (ls' := [(0, .inr (.inr (5, o0a, 0))), (1, .inl a1), (2, .inl a2), (3, .inl a3), (4, .inl a4), (5, .inl a5), (6, .inl a6), (7, .inl v33)]) dX5_seeHeaps_159 rfl ((congrArg (fun z => a7 + z) ic_1).trans ev33.symm) (Nat.le_of_ble_eq_true rfl) rfl ?_
          refine am_goto 106 dX5_seeHeaps_162 rfl ?_
          exact am_drop [0, 1, 2, 3, 4, 5, 6, 7] rfl (ih _ _ _ h KX)
        clear h
        refine am_icmp_gt 157 dX5_seeHeaps_150 rfl (fun b29 => ?_) (fun b29 => ?_)
        · replace h27 := am_ifT b29 h27
          refine am_iconst dX5_seeHeaps_157 ic_0 ?_
          obtain rfl := Option.some.inj h27
          exact am_drop [0, 1, 2, 3, 4, 5, 6, 7] rfl KK28
        · replace h27 := am_ifF b29 h27
          refine am_iconst dX5_seeHeaps_153 ic_1 ?_
          refine am_goto 158 dX5_seeHeaps_154 rfl ?_
          obtain rfl := Option.some.inj h27
          exact am_drop [0, 1, 2, 3, 4, 5, 6, 7] rfl KK28
def l_X5_seeHeaps_96 (o0a : Nat) (a1 : Int32) (a2 : Int32) (a3 : Int32) (a4 : Int32) (a5 : Int32) : Nat → Int32 → am_M → Option (am_M)
  | 0, _, _ => none
  | n + 1, a6, M => (if a5 < a6 then some M else (l_X5_seeHeaps_106 o0a a1 a2 a3 a4 a5 a6 1000 (0 : Int32) M).bind (fun z36 => am_let (a6 + (1 : Int32)) (fun v39 => l_X5_seeHeaps_96 o0a a1 a2 a3 a4 a5 n v39 z36)))
set_option maxHeartbeats 4000000 in
theorem wl_X5_seeHeaps_96 {K : am_K} {d : Nat} {post : Option am_V → am_M → Prop} {o0a : Nat} {a1 : Int32} {a2 : Int32} {a3 : Int32} {a4 : Int32} {a5 : Int32} : ∀ (n : Nat) (a6 : Int32) (M : am_M) (x : am_M), l_X5_seeHeaps_96 o0a a1 a2 a3 a4 a5 n a6 M = some x → am_W K (d + 2) m_X5_seeHeaps 171 [(0, .inr (.inr (5, o0a, 0))), (1, .inl a1), (2, .inl a2), (3, .inl a3), (4, .inl a4), (5, .inl a5)] [] x post → am_W K (d + 2) m_X5_seeHeaps 96 [(0, .inr (.inr (5, o0a, 0))), (1, .inl a1), (2, .inl a2), (3, .inl a3), (4, .inl a4), (5, .inl a5), (6, .inl a6)] [] M post := by
  intro n
  induction n with
  | zero => intro a6 M x h KX; cases h
  | succ n ih =>
    intro a6 M x h KX
    rw [l_X5_seeHeaps_96] at h
    refine am_iload dX5_seeHeaps_96 rfl ?_
    refine am_iload dX5_seeHeaps_98 rfl ?_
    refine am_icmp_gt 171 dX5_seeHeaps_100 rfl (fun b40 => ?_) (fun b40 => ?_)
    · replace h := am_ifT b40 h
      obtain rfl := Option.some.inj h
      exact am_drop [0, 1, 2, 3, 4, 5] rfl KX
    · replace h := am_ifF b40 h
      refine am_iconst dX5_seeHeaps_103 ic_0 ?_
      refine am_istore (ls' := [(0, .inr (.inr (5, o0a, 0))), (1, .inl a1), (2, .inl a2), (3, .inl a3), (4, .inl a4), (5, .inl a5), (6, .inl a6), (7, .inl (0 : Int32))]) dX5_seeHeaps_104 (Nat.le_of_ble_eq_true rfl) rfl ?_
      obtain ⟨z36, h37, h⟩ := am_bnd h
      have KK38 : am_W K (d + 2) m_X5_seeHeaps 165 [(0, .inr (.inr (5, o0a, 0))), (1, .inl a1), (2, .inl a2), (3, .inl a3), (4, .inl a4), (5, .inl a5), (6, .inl a6)] [] z36 post := by
        obtain ⟨v39, ev39, h⟩ := am_letE h
        refine am_iinc (ls' := [(0, .inr (.inr (5, o0a, 0))), (1, .inl a1), (2, .inl a2), (3, .inl a3), (4, .inl a4), (5, .inl a5), (6, .inl v39)]) dX5_seeHeaps_165 rfl ((congrArg (fun z => a6 + z) ic_1).trans ev39.symm) (Nat.le_of_ble_eq_true rfl) rfl ?_
        refine am_goto 96 dX5_seeHeaps_168 rfl ?_
        exact am_drop [0, 1, 2, 3, 4, 5, 6] rfl (ih _ _ _ h KX)
      exact am_drop [0, 1, 2, 3, 4, 5, 6, 7] rfl (wl_X5_seeHeaps_106 _ _ _ _ h37 KK38)
def l_X5_seeHeaps_60 (o0a : Nat) : Nat → Int32 → Int32 → Int32 → am_M → Option (am_M)
  | 0, _, _, _, _ => none
  | n + 1, a1, a2, a3, M => (if (M.1 5 o0a 0 10) ≤ a3 then some M else if am_inb a3 4 = true then am_let (M.1 613 o0a 0 a3.toNatClampNeg) (fun v19 => if am_inb v19 4 = true then if am_inb v19 4 = true then am_let ((M.1 611 o0a 0 v19.toNatClampNeg) + (M.1 612 o0a 0 v19.toNatClampNeg)) (fun v22 => (l_X5_seeHeaps_96 o0a a1 a2 a3 v19 v22 1000 (1 : Int32) M).bind (fun z41 => am_let (a1 + v22) (fun v44 => if am_inb v19 4 = true then am_let (a2 + (z41.1 611 o0a 0 v19.toNatClampNeg)) (fun v46 => am_let (a3 + (1 : Int32)) (fun v47 => l_X5_seeHeaps_60 o0a n v44 v46 v47 z41)) else none))) else none else none) else none)
set_option maxHeartbeats 4000000 in
theorem wl_X5_seeHeaps_60 {K : am_K} {d : Nat} {post : Option am_V → am_M → Prop} {o0a : Nat} : ∀ (n : Nat) (a1 : Int32) (a2 : Int32) (a3 : Int32) (M : am_M) (x : am_M), l_X5_seeHeaps_60 o0a n a1 a2 a3 M = some x → am_W K (d + 2) m_X5_seeHeaps 192 [] [] x post → am_W K (d + 2) m_X5_seeHeaps 60 [(0, .inr (.inr (5, o0a, 0))), (1, .inl a1), (2, .inl a2), (3, .inl a3)] [] M post := by
  intro n
  induction n with
  | zero => intro a1 a2 a3 M x h KX; cases h
  | succ n ih =>
    intro a1 a2 a3 M x h KX
    rw [l_X5_seeHeaps_60] at h
    refine am_iload_n dX5_seeHeaps_60 rfl ?_
    refine am_aload_n dX5_seeHeaps_61 rfl ?_
    refine am_getI dX5_seeHeaps_62 fl_RX5_130 sh_5 rfl hk_5 ?_
    refine am_icmp_ge 192 dX5_seeHeaps_65 rfl (fun b48 => ?_) (fun b48 => ?_)
    · replace h := am_ifT b48 h
      obtain rfl := Option.some.inj h
      exact am_drop [] rfl KX
    · replace h := am_ifF b48 h
      refine am_aload_n dX5_seeHeaps_68 rfl ?_
      refine am_getR (o' := o0a) dX5_seeHeaps_69 fl_RX5_46 sh_5 rfl rfl hk_5 ?_
      refine am_iload_n dX5_seeHeaps_72 rfl ?_
      obtain ⟨g18, h⟩ := am_grd h
      refine am_iaload dX5_seeHeaps_73 sh_613 hk_613 (am_inbE g18) ?_
      obtain ⟨v19, ev19, h⟩ := am_letE h
      refine am_topI ev19 ?_
      refine am_istore (ls' := [(0, .inr (.inr (5, o0a, 0))), (1, .inl a1), (2, .inl a2), (3, .inl a3), (4, .inl v19)]) dX5_seeHeaps_74 (Nat.le_of_ble_eq_true rfl) rfl ?_
      refine am_aload_n dX5_seeHeaps_76 rfl ?_
      refine am_getR (o' := o0a) dX5_seeHeaps_77 fl_RX5_40 sh_5 rfl rfl hk_5 ?_
      refine am_iload dX5_seeHeaps_80 rfl ?_
      obtain ⟨g20, h⟩ := am_grd h
      refine am_iaload dX5_seeHeaps_82 sh_611 hk_611 (am_inbE g20) ?_
      refine am_aload_n dX5_seeHeaps_83 rfl ?_
      refine am_getR (o' := o0a) dX5_seeHeaps_84 fl_RX5_43 sh_5 rfl rfl hk_5 ?_
      refine am_iload dX5_seeHeaps_87 rfl ?_
      obtain ⟨g21, h⟩ := am_grd h
      refine am_iaload dX5_seeHeaps_89 sh_612 hk_612 (am_inbE g21) ?_
      refine am_iadd dX5_seeHeaps_90 ?_
      obtain ⟨v22, ev22, h⟩ := am_letE h
      refine am_topI ev22 ?_
      refine am_istore (ls' := [(0, .inr (.inr (5, o0a, 0))), (1, .inl a1), (2, .inl a2), (3, .inl a3), (4, .inl v19), (5, .inl v22)]) dX5_seeHeaps_91 (Nat.le_of_ble_eq_true rfl) rfl ?_
      refine am_iconst dX5_seeHeaps_93 ic_1 ?_
      refine am_istore (ls' := [(0, .inr (.inr (5, o0a, 0))), (1, .inl a1), (2, .inl a2), (3, .inl a3), (4, .inl v19), (5, .inl v22), (6, .inl (1 : Int32))]) dX5_seeHeaps_94 (Nat.le_of_ble_eq_true rfl) rfl ?_
      obtain ⟨z41, h42, h⟩ := am_bnd h
      have KK43 : am_W K (d + 2) m_X5_seeHeaps 171 [(0, .inr (.inr (5, o0a, 0))), (1, .inl a1), (2, .inl a2), (3, .inl a3), (4, .inl v19), (5, .inl v22)] [] z41 post := by
        refine am_iload_n dX5_seeHeaps_171 rfl ?_
        refine am_iload dX5_seeHeaps_172 rfl ?_
        refine am_iadd dX5_seeHeaps_174 ?_
        obtain ⟨v44, ev44, h⟩ := am_letE h
        refine am_topI ev44 ?_
        refine am_istore_n (ls' := [(0, .inr (.inr (5, o0a, 0))), (1, .inl v44), (2, .inl a2), (3, .inl a3), (4, .inl v19), (5, .inl v22)]) dX5_seeHeaps_175 (Nat.le_of_ble_eq_true rfl) rfl ?_
        refine am_iload_n dX5_seeHeaps_176 rfl ?_
        refine am_aload_n dX5_seeHeaps_177 rfl ?_
        refine am_getR (o' := o0a) dX5_seeHeaps_178 fl_RX5_40 sh_5 rfl rfl hk_5 ?_
        refine am_iload dX5_seeHeaps_181 rfl ?_
        obtain ⟨g45, h⟩ := am_grd h
        refine am_iaload dX5_seeHeaps_183 sh_611 hk_611 (am_inbE g45) ?_
        refine am_iadd dX5_seeHeaps_184 ?_
        obtain ⟨v46, ev46, h⟩ := am_letE h
        refine am_topI ev46 ?_
        refine am_istore_n (ls' := [(0, .inr (.inr (5, o0a, 0))), (1, .inl v44), (2, .inl v46), (3, .inl a3), (4, .inl v19), (5, .inl v22)]) dX5_seeHeaps_185 (Nat.le_of_ble_eq_true rfl) rfl ?_
        obtain ⟨v47, ev47, h⟩ := am_letE h
        refine am_iinc (ls' := [(0, .inr (.inr (5, o0a, 0))), (1, .inl v44), (2, .inl v46), (3, .inl v47), (4, .inl v19), (5, .inl v22)]) dX5_seeHeaps_186 rfl ((congrArg (fun z => a3 + z) ic_1).trans ev47.symm) (Nat.le_of_ble_eq_true rfl) rfl ?_
        refine am_goto 60 dX5_seeHeaps_189 rfl ?_
        exact am_drop [0, 1, 2, 3] rfl (ih _ _ _ _ _ h KX)
      exact am_drop [0, 1, 2, 3, 4, 5, 6] rfl (wl_X5_seeHeaps_96 _ _ _ _ h42 KK43)
def f_X5_seeHeaps (M : am_M) (o : Nat) : Option (am_M) :=
  (f_X5_all M o).bind (fun r2 => am_let (am_si M 5 o 0 29 r2) (fun M3 => (l_X5_seeHeaps_10 o 1000 (0 : Int32) M3).bind (fun z14 => am_let (am_si z14 728 o (0 : Int32).toNatClampNeg (0 : Int32).toNatClampNeg (1 : Int32)) (fun M17 => (l_X5_seeHeaps_60 o 1000 (0 : Int32) (0 : Int32) (0 : Int32) M17).bind (fun z49 => some z49)))))
set_option maxHeartbeats 4000000 in
theorem w_X5_seeHeaps {K : am_K} {d : Nat} {post : Option am_V → am_M → Prop} {M : am_M} {o : Nat} {y : am_M} (h : f_X5_seeHeaps M o = some y) (hp : post none y) : am_W K (d + 2) m_X5_seeHeaps 0 [(0, .inr (.inr (5, o, 0)))] [] M post := by
  unfold f_X5_seeHeaps at h
  refine am_aload_n dX5_seeHeaps_0 rfl ?_
  refine am_aload_n dX5_seeHeaps_1 rfl ?_
  obtain ⟨r2, c1, h⟩ := am_bnd h
  refine am_callVi (as := []) dX5_seeHeaps_2 cv_RX5_140 cb_X5_all sh_5 rfl hk_5 rfl rfl (Nat.le_of_ble_eq_true rfl) (c_X5_all c1) ?_
  obtain ⟨M3, eM3, h⟩ := am_letE h
  refine am_putI dX5_seeHeaps_5 fl_RX5_254 fp_X5_29 sh_5 rfl rfl rfl hk_5 ?_
  refine am_mem eM3 ?_
  refine am_iconst dX5_seeHeaps_8 ic_0 ?_
  refine am_istore_n (ls' := [(0, .inr (.inr (5, o, 0))), (1, .inl (0 : Int32))]) dX5_seeHeaps_9 (Nat.le_of_ble_eq_true rfl) rfl ?_
  obtain ⟨z14, h15, h⟩ := am_bnd h
  have KK16 : am_W K (d + 2) m_X5_seeHeaps 45 [(0, .inr (.inr (5, o, 0)))] [] z14 post := by
    refine am_aload_n dX5_seeHeaps_45 rfl ?_
    refine am_getR (o' := o) dX5_seeHeaps_46 fl_RX5_66 sh_5 rfl rfl hk_5 ?_
    refine am_iconst dX5_seeHeaps_49 ic_0 ?_
    refine am_aaload dX5_seeHeaps_50 sh_628 rfl rfl hk_628 (am_inbE (by decide)) ?_
    refine am_top (w := .inr (.inr (728, o, (0 : Int32).toNatClampNeg))) rfl ?_
    refine am_iconst dX5_seeHeaps_51 ic_0 ?_
    refine am_iconst dX5_seeHeaps_52 ic_1 ?_
    obtain ⟨M17, eM17, h⟩ := am_letE h
    refine am_zastore dX5_seeHeaps_53 sh_728 hk_728 (am_inbE (by decide)) (am_nrvZ (by decide)) ?_
    refine am_mem eM17 ?_
    refine am_iconst dX5_seeHeaps_54 ic_0 ?_
    refine am_istore_n (ls' := [(0, .inr (.inr (5, o, 0))), (1, .inl (0 : Int32))]) dX5_seeHeaps_55 (Nat.le_of_ble_eq_true rfl) rfl ?_
    refine am_iconst dX5_seeHeaps_56 ic_0 ?_
    refine am_istore_n (ls' := [(0, .inr (.inr (5, o, 0))), (1, .inl (0 : Int32)), (2, .inl (0 : Int32))]) dX5_seeHeaps_57 (Nat.le_of_ble_eq_true rfl) rfl ?_
    refine am_iconst dX5_seeHeaps_58 ic_0 ?_
    refine am_istore_n (ls' := [(0, .inr (.inr (5, o, 0))), (1, .inl (0 : Int32)), (2, .inl (0 : Int32)), (3, .inl (0 : Int32))]) dX5_seeHeaps_59 (Nat.le_of_ble_eq_true rfl) rfl ?_
    obtain ⟨z49, h50, h⟩ := am_bnd h
    have KK51 : am_W K (d + 2) m_X5_seeHeaps 192 [] [] z49 post := by
      obtain rfl := Option.some.inj h
      exact am_return dX5_seeHeaps_192 rfl hp
    exact am_drop [0, 1, 2, 3] rfl (wl_X5_seeHeaps_60 _ _ _ _ _ _ h50 KK51)
  exact am_drop [0, 1] rfl (wl_X5_seeHeaps_10 _ _ _ _ h15 KK16)
theorem c_X5_seeHeaps {K : am_K} {d : Nat} {M : am_M} {o : Nat} {y : am_M} (h : f_X5_seeHeaps M o = some y) : am_Met K (d + 2) m_X5_seeHeaps [.inr (.inr (5, o, 0))] M (fun q N => q = none ∧ N = y) :=
  am_Met_of cb_X5_seeHeaps (Nat.le_of_ble_eq_true rfl) (w_X5_seeHeaps h ⟨rfl, rfl⟩)
def l_X5_seeBack_21 (o0a : Nat) (a1 : Int32) (a2 : Int32) : Nat → Int32 → am_M → Option (am_M)
  | 0, _, _ => none
  | n + 1, a3, M => (if (24 : Int32) < a3 then some M else if am_inb a2 25 = true then ((if a1 < a3 then some (0 : Int32) else if am_inb ((M.1 5 o0a 0 29) - a2) 25 = true then if am_inb (a1 - a3) 25 = true then (if (M.1 728 o0a ((M.1 5 o0a 0 29) - a2).toNatClampNeg (a1 - a3).toNatClampNeg) = 0 then some (0 : Int32) else some (1 : Int32)) else none else none) : Option (Int32)).bind (fun z6 => if am_inb a3 25 = true then if (z6 = 0 ∨ z6 = 1) then am_let (am_si M 735 o0a a2.toNatClampNeg a3.toNatClampNeg z6) (fun M15 => am_let (a3 + (1 : Int32)) (fun v16 => l_X5_seeBack_21 o0a a1 a2 n v16 M15)) else none else none) else none)
set_option maxHeartbeats 4000000 in
theorem wl_X5_seeBack_21 {K : am_K} {d : Nat} {post : Option am_V → am_M → Prop} {o0a : Nat} {a1 : Int32} {a2 : Int32} : ∀ (n : Nat) (a3 : Int32) (M : am_M) (x : am_M), l_X5_seeBack_21 o0a a1 a2 n a3 M = some x → am_W K (d + 3) m_X5_seeBack 69 [(0, .inr (.inr (5, o0a, 0))), (1, .inl a1), (2, .inl a2)] [] x post → am_W K (d + 3) m_X5_seeBack 21 [(0, .inr (.inr (5, o0a, 0))), (1, .inl a1), (2, .inl a2), (3, .inl a3)] [] M post := by
  intro n
  induction n with
  | zero => intro a3 M x h KX; cases h
  | succ n ih =>
    intro a3 M x h KX
    rw [l_X5_seeBack_21] at h
    refine am_iload_n dX5_seeBack_21 rfl ?_
    refine am_bipush dX5_seeBack_22 bp_24 ?_
    refine am_icmp_gt 69 dX5_seeBack_24 rfl (fun b17 => ?_) (fun b17 => ?_)
    · replace h := am_ifT b17 h
      obtain rfl := Option.some.inj h
      exact am_drop [0, 1, 2] rfl KX
    · replace h := am_ifF b17 h
      refine am_aload_n dX5_seeBack_27 rfl ?_
      refine am_getR (o' := o0a) dX5_seeBack_28 fl_RX5_84 sh_5 rfl rfl hk_5 ?_
      refine am_iload_n dX5_seeBack_31 rfl ?_
      obtain ⟨g5, h⟩ := am_grd h
      refine am_aaload dX5_seeBack_32 sh_635 rfl rfl hk_635 (am_inbE g5) ?_
      refine am_top (w := .inr (.inr (735, o0a, a2.toNatClampNeg))) rfl ?_
      refine am_iload_n dX5_seeBack_33 rfl ?_
      refine am_iload_n dX5_seeBack_34 rfl ?_
      refine am_iload_n dX5_seeBack_35 rfl ?_
      obtain ⟨z6, h7, h⟩ := am_bnd h
      have KK8 : am_W K (d + 3) m_X5_seeBack 62 [(0, .inr (.inr (5, o0a, 0))), (1, .inl a1), (2, .inl a2), (3, .inl a3)] [.inl z6, .inl a3, .inr (.inr (735, o0a, a2.toNatClampNeg))] M post := by
        obtain ⟨g13, h⟩ := am_grd h
        obtain ⟨g14, h⟩ := am_grd h
        obtain ⟨M15, eM15, h⟩ := am_letE h
        refine am_zastore dX5_seeBack_62 sh_735 hk_735 (am_inbE g13) (am_nrvZ g14) ?_
        refine am_mem eM15 ?_
        obtain ⟨v16, ev16, h⟩ := am_letE h
        refine am_iinc (ls' := [(0, .inr (.inr (5, o0a, 0))), (1, .inl a1), (2, .inl a2), (3, .inl v16)]) dX5_seeBack_63 rfl ((congrArg (fun z => a3 + z) ic_1).trans ev16.symm) (Nat.le_of_ble_eq_true rfl) rfl ?_
        refine am_goto 21 dX5_seeBack_66 rfl ?_
        exact am_drop [0, 1, 2, 3] rfl (ih _ _ _ h KX)
      clear h
      refine am_icmp_gt 61 dX5_seeBack_36 rfl (fun b12 => ?_) (fun b12 => ?_)
      · replace h7 := am_ifT b12 h7
        refine am_iconst dX5_seeBack_61 ic_0 ?_
        obtain rfl := Option.some.inj h7
        exact am_drop [0, 1, 2, 3] rfl KK8
      · replace h7 := am_ifF b12 h7
        refine am_aload_n dX5_seeBack_39 rfl ?_
        refine am_getR (o' := o0a) dX5_seeBack_40 fl_RX5_66 sh_5 rfl rfl hk_5 ?_
        refine am_aload_n dX5_seeBack_43 rfl ?_
        refine am_getI dX5_seeBack_44 fl_RX5_254 sh_5 rfl hk_5 ?_
        refine am_iload_n dX5_seeBack_47 rfl ?_
        refine am_isub dX5_seeBack_48 ?_
        obtain ⟨g9, h7⟩ := am_grd h7
        refine am_aaload dX5_seeBack_49 sh_628 rfl rfl hk_628 (am_inbE g9) ?_
        refine am_top (w := .inr (.inr (728, o0a, ((M.1 5 o0a 0 29) - a2).toNatClampNeg))) rfl ?_
        refine am_iload_n dX5_seeBack_50 rfl ?_
        refine am_iload_n dX5_seeBack_51 rfl ?_
        refine am_isub dX5_seeBack_52 ?_
        obtain ⟨g10, h7⟩ := am_grd h7
        refine am_zaload dX5_seeBack_53 sh_728 hk_728 (am_inbE g10) ?_
        refine am_if_eq 61 dX5_seeBack_54 rfl (fun b11 => ?_) (fun b11 => ?_)
        · replace h7 := am_ifT b11 h7
          refine am_iconst dX5_seeBack_61 ic_0 ?_
          obtain rfl := Option.some.inj h7
          exact am_drop [0, 1, 2, 3] rfl KK8
        · replace h7 := am_ifF b11 h7
          refine am_iconst dX5_seeBack_57 ic_1 ?_
          refine am_goto 62 dX5_seeBack_58 rfl ?_
          obtain rfl := Option.some.inj h7
          exact am_drop [0, 1, 2, 3] rfl KK8
def l_X5_seeBack_11 (o0a : Nat) (a1 : Int32) : Nat → Int32 → am_M → Option (am_M)
  | 0, _, _ => none
  | n + 1, a2, M => (if (M.1 5 o0a 0 29) < a2 then some M else (l_X5_seeBack_21 o0a a1 a2 1000 (0 : Int32) M).bind (fun z18 => am_let (a2 + (1 : Int32)) (fun v21 => l_X5_seeBack_11 o0a a1 n v21 z18)))
set_option maxHeartbeats 4000000 in
theorem wl_X5_seeBack_11 {K : am_K} {d : Nat} {post : Option am_V → am_M → Prop} {o0a : Nat} {a1 : Int32} : ∀ (n : Nat) (a2 : Int32) (M : am_M) (x : am_M), l_X5_seeBack_11 o0a a1 n a2 M = some x → am_W K (d + 3) m_X5_seeBack 75 [(0, .inr (.inr (5, o0a, 0)))] [] x post → am_W K (d + 3) m_X5_seeBack 11 [(0, .inr (.inr (5, o0a, 0))), (1, .inl a1), (2, .inl a2)] [] M post := by
  intro n
  induction n with
  | zero => intro a2 M x h KX; cases h
  | succ n ih =>
    intro a2 M x h KX
    rw [l_X5_seeBack_11] at h
    refine am_iload_n dX5_seeBack_11 rfl ?_
    refine am_aload_n dX5_seeBack_12 rfl ?_
    refine am_getI dX5_seeBack_13 fl_RX5_254 sh_5 rfl hk_5 ?_
    refine am_icmp_gt 75 dX5_seeBack_16 rfl (fun b22 => ?_) (fun b22 => ?_)
    · replace h := am_ifT b22 h
      obtain rfl := Option.some.inj h
      exact am_drop [0] rfl KX
    · replace h := am_ifF b22 h
      refine am_iconst dX5_seeBack_19 ic_0 ?_
      refine am_istore_n (ls' := [(0, .inr (.inr (5, o0a, 0))), (1, .inl a1), (2, .inl a2), (3, .inl (0 : Int32))]) dX5_seeBack_20 (Nat.le_of_ble_eq_true rfl) rfl ?_
      obtain ⟨z18, h19, h⟩ := am_bnd h
      have KK20 : am_W K (d + 3) m_X5_seeBack 69 [(0, .inr (.inr (5, o0a, 0))), (1, .inl a1), (2, .inl a2)] [] z18 post := by
        obtain ⟨v21, ev21, h⟩ := am_letE h
        refine am_iinc (ls' := [(0, .inr (.inr (5, o0a, 0))), (1, .inl a1), (2, .inl v21)]) dX5_seeBack_69 rfl ((congrArg (fun z => a2 + z) ic_1).trans ev21.symm) (Nat.le_of_ble_eq_true rfl) rfl ?_
        refine am_goto 11 dX5_seeBack_72 rfl ?_
        exact am_drop [0, 1, 2] rfl (ih _ _ _ h KX)
      exact am_drop [0, 1, 2, 3] rfl (wl_X5_seeBack_21 _ _ _ _ h19 KK20)
def l_X5_seeBack_87 (o0a : Nat) (a2 : Int32) : Nat → Int32 → am_M → Option (am_M)
  | 0, _, _ => none
  | n + 1, a3, M => (if (24 : Int32) < a3 then some M else if am_inb a2 25 = true then if am_inb a2 25 = true then if am_inb a3 25 = true then if am_inb a3 25 = true then if ((M.1 735 o0a a2.toNatClampNeg a3.toNatClampNeg) = 0 ∨ (M.1 735 o0a a2.toNatClampNeg a3.toNatClampNeg) = 1) then am_let (am_si M 728 o0a a2.toNatClampNeg a3.toNatClampNeg (M.1 735 o0a a2.toNatClampNeg a3.toNatClampNeg)) (fun M31 => am_let (a3 + (1 : Int32)) (fun v32 => l_X5_seeBack_87 o0a a2 n v32 M31)) else none else none else none else none else none)
set_option maxHeartbeats 4000000 in
theorem wl_X5_seeBack_87 {K : am_K} {d : Nat} {post : Option am_V → am_M → Prop} {o0a : Nat} {a2 : Int32} : ∀ (n : Nat) (a3 : Int32) (M : am_M) (x : am_M), l_X5_seeBack_87 o0a a2 n a3 M = some x → am_W K (d + 3) m_X5_seeBack 115 [(0, .inr (.inr (5, o0a, 0))), (2, .inl a2)] [] x post → am_W K (d + 3) m_X5_seeBack 87 [(0, .inr (.inr (5, o0a, 0))), (2, .inl a2), (3, .inl a3)] [] M post := by
  intro n
  induction n with
  | zero => intro a3 M x h KX; cases h
  | succ n ih =>
    intro a3 M x h KX
    rw [l_X5_seeBack_87] at h
    refine am_iload_n dX5_seeBack_87 rfl ?_
    refine am_bipush dX5_seeBack_88 bp_24 ?_
    refine am_icmp_gt 115 dX5_seeBack_90 rfl (fun b33 => ?_) (fun b33 => ?_)
    · replace h := am_ifT b33 h
      obtain rfl := Option.some.inj h
      exact am_drop [0, 2] rfl KX
    · replace h := am_ifF b33 h
      refine am_aload_n dX5_seeBack_93 rfl ?_
      refine am_getR (o' := o0a) dX5_seeBack_94 fl_RX5_66 sh_5 rfl rfl hk_5 ?_
      refine am_iload_n dX5_seeBack_97 rfl ?_
      obtain ⟨g26, h⟩ := am_grd h
      refine am_aaload dX5_seeBack_98 sh_628 rfl rfl hk_628 (am_inbE g26) ?_
      refine am_top (w := .inr (.inr (728, o0a, a2.toNatClampNeg))) rfl ?_
      refine am_iload_n dX5_seeBack_99 rfl ?_
      refine am_aload_n dX5_seeBack_100 rfl ?_
      refine am_getR (o' := o0a) dX5_seeBack_101 fl_RX5_84 sh_5 rfl rfl hk_5 ?_
      refine am_iload_n dX5_seeBack_104 rfl ?_
      obtain ⟨g27, h⟩ := am_grd h
      refine am_aaload dX5_seeBack_105 sh_635 rfl rfl hk_635 (am_inbE g27) ?_
      refine am_top (w := .inr (.inr (735, o0a, a2.toNatClampNeg))) rfl ?_
      refine am_iload_n dX5_seeBack_106 rfl ?_
      obtain ⟨g28, h⟩ := am_grd h
      refine am_zaload dX5_seeBack_107 sh_735 hk_735 (am_inbE g28) ?_
      obtain ⟨g29, h⟩ := am_grd h
      obtain ⟨g30, h⟩ := am_grd h
      obtain ⟨M31, eM31, h⟩ := am_letE h
      refine am_zastore dX5_seeBack_108 sh_728 hk_728 (am_inbE g29) (am_nrvZ g30) ?_
      refine am_mem eM31 ?_
      obtain ⟨v32, ev32, h⟩ := am_letE h
      refine am_iinc (ls' := [(0, .inr (.inr (5, o0a, 0))), (2, .inl a2), (3, .inl v32)]) dX5_seeBack_109 rfl ((congrArg (fun z => a3 + z) ic_1).trans ev32.symm) (Nat.le_of_ble_eq_true rfl) rfl ?_
      refine am_goto 87 dX5_seeBack_112 rfl ?_
      exact am_drop [0, 2, 3] rfl (ih _ _ _ h KX)
def l_X5_seeBack_77 (o0a : Nat) : Nat → Int32 → am_M → Option (am_M)
  | 0, _, _ => none
  | n + 1, a2, M => (if (M.1 5 o0a 0 29) < a2 then some M else (l_X5_seeBack_87 o0a a2 1000 (0 : Int32) M).bind (fun z34 => am_let (a2 + (1 : Int32)) (fun v37 => l_X5_seeBack_77 o0a n v37 z34)))
set_option maxHeartbeats 4000000 in
theorem wl_X5_seeBack_77 {K : am_K} {d : Nat} {post : Option am_V → am_M → Prop} {o0a : Nat} : ∀ (n : Nat) (a2 : Int32) (M : am_M) (x : am_M), l_X5_seeBack_77 o0a n a2 M = some x → am_W K (d + 3) m_X5_seeBack 121 [] [] x post → am_W K (d + 3) m_X5_seeBack 77 [(0, .inr (.inr (5, o0a, 0))), (2, .inl a2)] [] M post := by
  intro n
  induction n with
  | zero => intro a2 M x h KX; cases h
  | succ n ih =>
    intro a2 M x h KX
    rw [l_X5_seeBack_77] at h
    refine am_iload_n dX5_seeBack_77 rfl ?_
    refine am_aload_n dX5_seeBack_78 rfl ?_
    refine am_getI dX5_seeBack_79 fl_RX5_254 sh_5 rfl hk_5 ?_
    refine am_icmp_gt 121 dX5_seeBack_82 rfl (fun b38 => ?_) (fun b38 => ?_)
    · replace h := am_ifT b38 h
      obtain rfl := Option.some.inj h
      exact am_drop [] rfl KX
    · replace h := am_ifF b38 h
      refine am_iconst dX5_seeBack_85 ic_0 ?_
      refine am_istore_n (ls' := [(0, .inr (.inr (5, o0a, 0))), (2, .inl a2), (3, .inl (0 : Int32))]) dX5_seeBack_86 (Nat.le_of_ble_eq_true rfl) rfl ?_
      obtain ⟨z34, h35, h⟩ := am_bnd h
      have KK36 : am_W K (d + 3) m_X5_seeBack 115 [(0, .inr (.inr (5, o0a, 0))), (2, .inl a2)] [] z34 post := by
        obtain ⟨v37, ev37, h⟩ := am_letE h
        refine am_iinc (ls' := [(0, .inr (.inr (5, o0a, 0))), (2, .inl v37)]) dX5_seeBack_115 rfl ((congrArg (fun z => a2 + z) ic_1).trans ev37.symm) (Nat.le_of_ble_eq_true rfl) rfl ?_
        refine am_goto 77 dX5_seeBack_118 rfl ?_
        exact am_drop [0, 2] rfl (ih _ _ _ h KX)
      exact am_drop [0, 2, 3] rfl (wl_X5_seeBack_87 _ _ _ _ h35 KK36)
def f_X5_seeBack (M : am_M) (o : Nat) : Option (am_M) :=
  (f_X5_seeHeaps M o).bind (fun r2 => (f_X5_allA r2 o).bind (fun r4 => (l_X5_seeBack_11 o r4 1000 (0 : Int32) r2).bind (fun z23 => (l_X5_seeBack_77 o 1000 (0 : Int32) z23).bind (fun z39 => some z39))))
set_option maxHeartbeats 4000000 in
theorem w_X5_seeBack {K : am_K} {d : Nat} {post : Option am_V → am_M → Prop} {M : am_M} {o : Nat} {y : am_M} (h : f_X5_seeBack M o = some y) (hp : post none y) : am_W K (d + 3) m_X5_seeBack 0 [(0, .inr (.inr (5, o, 0)))] [] M post := by
  unfold f_X5_seeBack at h
  refine am_aload_n dX5_seeBack_0 rfl ?_
  obtain ⟨r2, c1, h⟩ := am_bnd h
  refine am_callVv (as := []) dX5_seeBack_1 cv_RX5_263 cb_X5_seeHeaps sh_5 rfl hk_5 rfl rfl (Nat.le_of_ble_eq_true rfl) (c_X5_seeHeaps c1) ?_
  refine am_aload_n dX5_seeBack_4 rfl ?_
  obtain ⟨r4, c3, h⟩ := am_bnd h
  refine am_callVi (as := []) dX5_seeBack_5 cv_RX5_133 cb_X5_allA sh_5 rfl hk_5 rfl rfl (Nat.le_of_ble_eq_true rfl) (c_X5_allA c3) ?_
  refine am_istore_n (ls' := [(0, .inr (.inr (5, o, 0))), (1, .inl r4)]) dX5_seeBack_8 (Nat.le_of_ble_eq_true rfl) rfl ?_
  refine am_iconst dX5_seeBack_9 ic_0 ?_
  refine am_istore_n (ls' := [(0, .inr (.inr (5, o, 0))), (1, .inl r4), (2, .inl (0 : Int32))]) dX5_seeBack_10 (Nat.le_of_ble_eq_true rfl) rfl ?_
  obtain ⟨z23, h24, h⟩ := am_bnd h
  have KK25 : am_W K (d + 3) m_X5_seeBack 75 [(0, .inr (.inr (5, o, 0)))] [] z23 post := by
    refine am_iconst dX5_seeBack_75 ic_0 ?_
    refine am_istore_n (ls' := [(0, .inr (.inr (5, o, 0))), (2, .inl (0 : Int32))]) dX5_seeBack_76 (Nat.le_of_ble_eq_true rfl) rfl ?_
    obtain ⟨z39, h40, h⟩ := am_bnd h
    have KK41 : am_W K (d + 3) m_X5_seeBack 121 [] [] z39 post := by
      obtain rfl := Option.some.inj h
      exact am_return dX5_seeBack_121 rfl hp
    exact am_drop [0, 2] rfl (wl_X5_seeBack_77 _ _ _ _ h40 KK41)
  exact am_drop [0, 1, 2] rfl (wl_X5_seeBack_11 _ _ _ _ h24 KK25)
theorem c_X5_seeBack {K : am_K} {d : Nat} {M : am_M} {o : Nat} {y : am_M} (h : f_X5_seeBack M o = some y) : am_Met K (d + 3) m_X5_seeBack [.inr (.inr (5, o, 0))] M (fun q N => q = none ∧ N = y) :=
  am_Met_of cb_X5_seeBack (Nat.le_of_ble_eq_true rfl) (w_X5_seeBack h ⟨rfl, rfl⟩)
def l_X5_seeOneHeap_25 (o0a : Nat) (a1 : Int32) (a2 : Int32) : Nat → Int32 → am_M → Option (am_M)
  | 0, _, _ => none
  | n + 1, a3, M => (if (24 : Int32) < a3 then some M else if am_inb a2 25 = true then ((if a2 < a3 then some (0 : Int32) else (if a1 < a3 then some (0 : Int32) else (if ((M.1 5 o0a 0 29) - a1) < (a2 - a3) then some (0 : Int32) else some (1 : Int32)))) : Option (Int32)).bind (fun z7 => if am_inb a3 25 = true then if (z7 = 0 ∨ z7 = 1) then am_let (am_si M 728 o0a a2.toNatClampNeg a3.toNatClampNeg z7) (fun M15 => am_let (a3 + (1 : Int32)) (fun v16 => l_X5_seeOneHeap_25 o0a a1 a2 n v16 M15)) else none else none) else none)
set_option maxHeartbeats 4000000 in
theorem wl_X5_seeOneHeap_25 {K : am_K} {d : Nat} {post : Option am_V → am_M → Prop} {o0a : Nat} {a1 : Int32} {a2 : Int32} : ∀ (n : Nat) (a3 : Int32) (M : am_M) (x : am_M), l_X5_seeOneHeap_25 o0a a1 a2 n a3 M = some x → am_W K (d + 2) m_X5_seeOneHeap 72 [(0, .inr (.inr (5, o0a, 0))), (1, .inl a1), (2, .inl a2)] [] x post → am_W K (d + 2) m_X5_seeOneHeap 25 [(0, .inr (.inr (5, o0a, 0))), (1, .inl a1), (2, .inl a2), (3, .inl a3)] [] M post := by
  intro n
  induction n with
  | zero => intro a3 M x h KX; cases h
  | succ n ih =>
    intro a3 M x h KX
    rw [l_X5_seeOneHeap_25] at h
    refine am_iload_n dX5_seeOneHeap_25 rfl ?_
    refine am_bipush dX5_seeOneHeap_26 bp_24 ?_
    refine am_icmp_gt 72 dX5_seeOneHeap_28 rfl (fun b17 => ?_) (fun b17 => ?_)
    · replace h := am_ifT b17 h
      obtain rfl := Option.some.inj h
      exact am_drop [0, 1, 2] rfl KX
    · replace h := am_ifF b17 h
      refine am_aload_n dX5_seeOneHeap_31 rfl ?_
      refine am_getR (o' := o0a) dX5_seeOneHeap_32 fl_RX5_66 sh_5 rfl rfl hk_5 ?_
      refine am_iload_n dX5_seeOneHeap_35 rfl ?_
      obtain ⟨g6, h⟩ := am_grd h
      refine am_aaload dX5_seeOneHeap_36 sh_628 rfl rfl hk_628 (am_inbE g6) ?_
      refine am_top (w := .inr (.inr (728, o0a, a2.toNatClampNeg))) rfl ?_
      refine am_iload_n dX5_seeOneHeap_37 rfl ?_
      refine am_iload_n dX5_seeOneHeap_38 rfl ?_
      refine am_iload_n dX5_seeOneHeap_39 rfl ?_
      obtain ⟨z7, h8, h⟩ := am_bnd h
      have KK9 : am_W K (d + 2) m_X5_seeOneHeap 65 [(0, .inr (.inr (5, o0a, 0))), (1, .inl a1), (2, .inl a2), (3, .inl a3)] [.inl z7, .inl a3, .inr (.inr (728, o0a, a2.toNatClampNeg))] M post := by
        obtain ⟨g13, h⟩ := am_grd h
        obtain ⟨g14, h⟩ := am_grd h
        obtain ⟨M15, eM15, h⟩ := am_letE h
        refine am_zastore dX5_seeOneHeap_65 sh_728 hk_728 (am_inbE g13) (am_nrvZ g14) ?_
        refine am_mem eM15 ?_
        obtain ⟨v16, ev16, h⟩ := am_letE h
        refine am_iinc (ls' := [(0, .inr (.inr (5, o0a, 0))), (1, .inl a1), (2, .inl a2), (3, .inl v16)]) dX5_seeOneHeap_66 rfl ((congrArg (fun z => a3 + z) ic_1).trans ev16.symm) (Nat.le_of_ble_eq_true rfl) rfl ?_
        refine am_goto 25 dX5_seeOneHeap_69 rfl ?_
        exact am_drop [0, 1, 2, 3] rfl (ih _ _ _ h KX)
      clear h
      refine am_icmp_gt 64 dX5_seeOneHeap_40 rfl (fun b12 => ?_) (fun b12 => ?_)
      · replace h8 := am_ifT b12 h8
        refine am_iconst dX5_seeOneHeap_64 ic_0 ?_
        obtain rfl := Option.some.inj h8
        exact am_drop [0, 1, 2, 3] rfl KK9
      · replace h8 := am_ifF b12 h8
        refine am_iload_n dX5_seeOneHeap_43 rfl ?_
        refine am_iload_n dX5_seeOneHeap_44 rfl ?_
        refine am_icmp_gt 64 dX5_seeOneHeap_45 rfl (fun b11 => ?_) (fun b11 => ?_)
        · replace h8 := am_ifT b11 h8
          refine am_iconst dX5_seeOneHeap_64 ic_0 ?_
          obtain rfl := Option.some.inj h8
          exact am_drop [0, 1, 2, 3] rfl KK9
        · replace h8 := am_ifF b11 h8
          refine am_iload_n dX5_seeOneHeap_48 rfl ?_
          refine am_iload_n dX5_seeOneHeap_49 rfl ?_
          refine am_isub dX5_seeOneHeap_50 ?_
          refine am_aload_n dX5_seeOneHeap_51 rfl ?_
          refine am_getI dX5_seeOneHeap_52 fl_RX5_254 sh_5 rfl hk_5 ?_
          refine am_iload_n dX5_seeOneHeap_55 rfl ?_
          refine am_isub dX5_seeOneHeap_56 ?_
          refine am_icmp_gt 64 dX5_seeOneHeap_57 rfl (fun b10 => ?_) (fun b10 => ?_)
          · replace h8 := am_ifT b10 h8
            refine am_iconst dX5_seeOneHeap_64 ic_0 ?_
            obtain rfl := Option.some.inj h8
            exact am_drop [0, 1, 2, 3] rfl KK9
          · replace h8 := am_ifF b10 h8
            refine am_iconst dX5_seeOneHeap_60 ic_1 ?_
            refine am_goto 65 dX5_seeOneHeap_61 rfl ?_
            obtain rfl := Option.some.inj h8
            exact am_drop [0, 1, 2, 3] rfl KK9
def l_X5_seeOneHeap_15 (o0a : Nat) (a1 : Int32) : Nat → Int32 → am_M → Option (am_M)
  | 0, _, _ => none
  | n + 1, a2, M => (if (M.1 5 o0a 0 29) < a2 then some M else (l_X5_seeOneHeap_25 o0a a1 a2 1000 (0 : Int32) M).bind (fun z18 => am_let (a2 + (1 : Int32)) (fun v21 => l_X5_seeOneHeap_15 o0a a1 n v21 z18)))
set_option maxHeartbeats 4000000 in
theorem wl_X5_seeOneHeap_15 {K : am_K} {d : Nat} {post : Option am_V → am_M → Prop} {o0a : Nat} {a1 : Int32} : ∀ (n : Nat) (a2 : Int32) (M : am_M) (x : am_M), l_X5_seeOneHeap_15 o0a a1 n a2 M = some x → am_W K (d + 2) m_X5_seeOneHeap 78 [] [] x post → am_W K (d + 2) m_X5_seeOneHeap 15 [(0, .inr (.inr (5, o0a, 0))), (1, .inl a1), (2, .inl a2)] [] M post := by
  intro n
  induction n with
  | zero => intro a2 M x h KX; cases h
  | succ n ih =>
    intro a2 M x h KX
    rw [l_X5_seeOneHeap_15] at h
    refine am_iload_n dX5_seeOneHeap_15 rfl ?_
    refine am_aload_n dX5_seeOneHeap_16 rfl ?_
    refine am_getI dX5_seeOneHeap_17 fl_RX5_254 sh_5 rfl hk_5 ?_
    refine am_icmp_gt 78 dX5_seeOneHeap_20 rfl (fun b22 => ?_) (fun b22 => ?_)
    · replace h := am_ifT b22 h
      obtain rfl := Option.some.inj h
      exact am_drop [] rfl KX
    · replace h := am_ifF b22 h
      refine am_iconst dX5_seeOneHeap_23 ic_0 ?_
      refine am_istore_n (ls' := [(0, .inr (.inr (5, o0a, 0))), (1, .inl a1), (2, .inl a2), (3, .inl (0 : Int32))]) dX5_seeOneHeap_24 (Nat.le_of_ble_eq_true rfl) rfl ?_
      obtain ⟨z18, h19, h⟩ := am_bnd h
      have KK20 : am_W K (d + 2) m_X5_seeOneHeap 72 [(0, .inr (.inr (5, o0a, 0))), (1, .inl a1), (2, .inl a2)] [] z18 post := by
        obtain ⟨v21, ev21, h⟩ := am_letE h
        refine am_iinc (ls' := [(0, .inr (.inr (5, o0a, 0))), (1, .inl a1), (2, .inl v21)]) dX5_seeOneHeap_72 rfl ((congrArg (fun z => a2 + z) ic_1).trans ev21.symm) (Nat.le_of_ble_eq_true rfl) rfl ?_
        refine am_goto 15 dX5_seeOneHeap_75 rfl ?_
        exact am_drop [0, 1, 2] rfl (ih _ _ _ h KX)
      exact am_drop [0, 1, 2, 3] rfl (wl_X5_seeOneHeap_25 _ _ _ _ h19 KK20)
def f_X5_seeOneHeap (M : am_M) (o : Nat) : Option (am_M) :=
  (f_X5_all M o).bind (fun r2 => am_let (am_si M 5 o 0 29 r2) (fun M3 => (f_X5_allA M3 o).bind (fun r5 => (l_X5_seeOneHeap_15 o r5 1000 (0 : Int32) M3).bind (fun z23 => some z23))))
set_option maxHeartbeats 4000000 in
theorem w_X5_seeOneHeap {K : am_K} {d : Nat} {post : Option am_V → am_M → Prop} {M : am_M} {o : Nat} {y : am_M} (h : f_X5_seeOneHeap M o = some y) (hp : post none y) : am_W K (d + 2) m_X5_seeOneHeap 0 [(0, .inr (.inr (5, o, 0)))] [] M post := by
  unfold f_X5_seeOneHeap at h
  refine am_aload_n dX5_seeOneHeap_0 rfl ?_
  refine am_aload_n dX5_seeOneHeap_1 rfl ?_
  obtain ⟨r2, c1, h⟩ := am_bnd h
  refine am_callVi (as := []) dX5_seeOneHeap_2 cv_RX5_140 cb_X5_all sh_5 rfl hk_5 rfl rfl (Nat.le_of_ble_eq_true rfl) (c_X5_all c1) ?_
  obtain ⟨M3, eM3, h⟩ := am_letE h
  refine am_putI dX5_seeOneHeap_5 fl_RX5_254 fp_X5_29 sh_5 rfl rfl rfl hk_5 ?_
  refine am_mem eM3 ?_
  refine am_aload_n dX5_seeOneHeap_8 rfl ?_
  obtain ⟨r5, c4, h⟩ := am_bnd h
  refine am_callVi (as := []) dX5_seeOneHeap_9 cv_RX5_133 cb_X5_allA sh_5 rfl hk_5 rfl rfl (Nat.le_of_ble_eq_true rfl) (c_X5_allA c4) ?_
  refine am_istore_n (ls' := [(0, .inr (.inr (5, o, 0))), (1, .inl r5)]) dX5_seeOneHeap_12 (Nat.le_of_ble_eq_true rfl) rfl ?_
  refine am_iconst dX5_seeOneHeap_13 ic_0 ?_
  refine am_istore_n (ls' := [(0, .inr (.inr (5, o, 0))), (1, .inl r5), (2, .inl (0 : Int32))]) dX5_seeOneHeap_14 (Nat.le_of_ble_eq_true rfl) rfl ?_
  obtain ⟨z23, h24, h⟩ := am_bnd h
  have KK25 : am_W K (d + 2) m_X5_seeOneHeap 78 [] [] z23 post := by
    obtain rfl := Option.some.inj h
    exact am_return dX5_seeOneHeap_78 rfl hp
  exact am_drop [0, 1, 2] rfl (wl_X5_seeOneHeap_15 _ _ _ _ h24 KK25)
theorem c_X5_seeOneHeap {K : am_K} {d : Nat} {M : am_M} {o : Nat} {y : am_M} (h : f_X5_seeOneHeap M o = some y) : am_Met K (d + 2) m_X5_seeOneHeap [.inr (.inr (5, o, 0))] M (fun q N => q = none ∧ N = y) :=
  am_Met_of cb_X5_seeOneHeap (Nat.le_of_ble_eq_true rfl) (w_X5_seeOneHeap h ⟨rfl, rfl⟩)
def f_X5_drawn (M : am_M) (o : Nat) (x1 : Int32) (x2 : Int32) : Option (Int64 × am_M) :=
  (if x1 = (1 : Int32) then (f_X5_seeOneHeap M o).bind (fun r3 => (f_X5_count r3 o (1 : Int32) x2).bind (fun r5 => some (r5.1, r5.2))) else if x1 = (2 : Int32) then (f_X5_seeHeaps M o).bind (fun r8 => (f_X5_count r8 o (1 : Int32) x2).bind (fun r10 => some (r10.1, r10.2))) else if x1 = (3 : Int32) then (f_X5_seeHeaps M o).bind (fun r13 => (f_X5_count r13 o (5 : Int32) x2).bind (fun r15 => some (r15.1, r15.2))) else if x1 = (4 : Int32) then (f_X5_seeBack M o).bind (fun r18 => (f_X5_count r18 o (1 : Int32) x2).bind (fun r20 => some (r20.1, r20.2))) else if x1 = (5 : Int32) then (f_X5_seeHeaps M o).bind (fun r23 => (f_X5_countSurely r23 o x2).bind (fun r25 => some (r25.1, r25.2))) else (f_X5_seeOneHeap M o).bind (fun r27 => (f_X5_count r27 o (0 : Int32) (0 : Int32)).bind (fun r29 => (f_X5_count r29.2 o (6 : Int32) x2).bind (fun r31 => some (r29.1 - r31.1, r31.2)))))
set_option maxHeartbeats 4000000 in
theorem w_X5_drawn {K : am_K} {d : Nat} {post : Option am_V → am_M → Prop} {M : am_M} {o : Nat} {x1 : Int32} {x2 : Int32} {y : Int64 × am_M} (h : f_X5_drawn M o x1 x2 = some y) (hp : post (some (.inr (.inl y.1))) y.2) : am_W K (d + 4) m_X5_drawn 0 [(0, .inr (.inr (5, o, 0))), (1, .inl x1), (2, .inl x2)] [] M post := by
  unfold f_X5_drawn at h
  refine am_iload_n dX5_drawn_0 rfl ?_
  by_cases b1 : x1 = (1 : Int32)
  · replace h := am_ifT b1 h
    skip
    refine am_swIn 36 dX5_drawn_1 (by rw [b1]; decide) (by rw [b1]; decide) (by rw [b1]; rfl) rfl ?_
    refine am_aload_n dX5_drawn_36 rfl ?_
    obtain ⟨r3, c2, h⟩ := am_bnd h
    refine am_callVv (as := []) dX5_drawn_37 cv_RX5_321 cb_X5_seeOneHeap sh_5 rfl hk_5 rfl rfl (Nat.le_of_ble_eq_true rfl) (c_X5_seeOneHeap c2) ?_
    refine am_aload_n dX5_drawn_40 rfl ?_
    refine am_iconst dX5_drawn_41 ic_1 ?_
    refine am_iload_n dX5_drawn_42 rfl ?_
    obtain ⟨r5, c4, h⟩ := am_bnd h
    refine am_callVl (as := [.inl (1 : Int32), .inl x2]) dX5_drawn_43 cv_RX5_273 cb_X5_count sh_5 rfl hk_5 rfl rfl (Nat.le_of_ble_eq_true rfl) (c_X5_count c4) ?_
    obtain rfl := Option.some.inj h
    exact am_lreturn dX5_drawn_46 rfl hp
  replace h := am_ifF b1 h
  by_cases b6 : x1 = (2 : Int32)
  · replace h := am_ifT b6 h
    skip
    refine am_swIn 47 dX5_drawn_1 (by rw [b6]; decide) (by rw [b6]; decide) (by rw [b6]; rfl) rfl ?_
    refine am_aload_n dX5_drawn_47 rfl ?_
    obtain ⟨r8, c7, h⟩ := am_bnd h
    refine am_callVv (as := []) dX5_drawn_48 cv_RX5_263 cb_X5_seeHeaps sh_5 rfl hk_5 rfl rfl (Nat.le_of_ble_eq_true rfl) (c_X5_seeHeaps c7) ?_
    refine am_aload_n dX5_drawn_51 rfl ?_
    refine am_iconst dX5_drawn_52 ic_1 ?_
    refine am_iload_n dX5_drawn_53 rfl ?_
    obtain ⟨r10, c9, h⟩ := am_bnd h
    refine am_callVl (as := [.inl (1 : Int32), .inl x2]) dX5_drawn_54 cv_RX5_273 cb_X5_count sh_5 rfl hk_5 rfl rfl (Nat.le_of_ble_eq_true rfl) (c_X5_count c9) ?_
    obtain rfl := Option.some.inj h
    exact am_lreturn dX5_drawn_57 rfl hp
  replace h := am_ifF b6 h
  by_cases b11 : x1 = (3 : Int32)
  · replace h := am_ifT b11 h
    skip
    refine am_swIn 58 dX5_drawn_1 (by rw [b11]; decide) (by rw [b11]; decide) (by rw [b11]; rfl) rfl ?_
    refine am_aload_n dX5_drawn_58 rfl ?_
    obtain ⟨r13, c12, h⟩ := am_bnd h
    refine am_callVv (as := []) dX5_drawn_59 cv_RX5_263 cb_X5_seeHeaps sh_5 rfl hk_5 rfl rfl (Nat.le_of_ble_eq_true rfl) (c_X5_seeHeaps c12) ?_
    refine am_aload_n dX5_drawn_62 rfl ?_
    refine am_iconst dX5_drawn_63 ic_5 ?_
    refine am_iload_n dX5_drawn_64 rfl ?_
    obtain ⟨r15, c14, h⟩ := am_bnd h
    refine am_callVl (as := [.inl (5 : Int32), .inl x2]) dX5_drawn_65 cv_RX5_273 cb_X5_count sh_5 rfl hk_5 rfl rfl (Nat.le_of_ble_eq_true rfl) (c_X5_count c14) ?_
    obtain rfl := Option.some.inj h
    exact am_lreturn dX5_drawn_68 rfl hp
  replace h := am_ifF b11 h
  by_cases b16 : x1 = (4 : Int32)
  · replace h := am_ifT b16 h
    skip
    refine am_swIn 69 dX5_drawn_1 (by rw [b16]; decide) (by rw [b16]; decide) (by rw [b16]; rfl) rfl ?_
    refine am_aload_n dX5_drawn_69 rfl ?_
    obtain ⟨r18, c17, h⟩ := am_bnd h
    refine am_callVv (as := []) dX5_drawn_70 cv_RX5_324 cb_X5_seeBack sh_5 rfl hk_5 rfl rfl (Nat.le_of_ble_eq_true rfl) (c_X5_seeBack c17) ?_
    refine am_aload_n dX5_drawn_73 rfl ?_
    refine am_iconst dX5_drawn_74 ic_1 ?_
    refine am_iload_n dX5_drawn_75 rfl ?_
    obtain ⟨r20, c19, h⟩ := am_bnd h
    refine am_callVl (as := [.inl (1 : Int32), .inl x2]) dX5_drawn_76 cv_RX5_273 cb_X5_count sh_5 rfl hk_5 rfl rfl (Nat.le_of_ble_eq_true rfl) (c_X5_count c19) ?_
    obtain rfl := Option.some.inj h
    exact am_lreturn dX5_drawn_79 rfl hp
  replace h := am_ifF b16 h
  by_cases b21 : x1 = (5 : Int32)
  · replace h := am_ifT b21 h
    skip
    refine am_swIn 80 dX5_drawn_1 (by rw [b21]; decide) (by rw [b21]; decide) (by rw [b21]; rfl) rfl ?_
    refine am_aload_n dX5_drawn_80 rfl ?_
    obtain ⟨r23, c22, h⟩ := am_bnd h
    refine am_callVv (as := []) dX5_drawn_81 cv_RX5_263 cb_X5_seeHeaps sh_5 rfl hk_5 rfl rfl (Nat.le_of_ble_eq_true rfl) (c_X5_seeHeaps c22) ?_
    refine am_aload_n dX5_drawn_84 rfl ?_
    refine am_iload_n dX5_drawn_85 rfl ?_
    obtain ⟨r25, c24, h⟩ := am_bnd h
    refine am_callVl (as := [.inl x2]) dX5_drawn_86 cv_RX5_327 cb_X5_countSurely sh_5 rfl hk_5 rfl rfl (Nat.le_of_ble_eq_true rfl) (c_X5_countSurely c24) ?_
    obtain rfl := Option.some.inj h
    exact am_lreturn dX5_drawn_89 rfl hp
  replace h := am_ifF b21 h
  have nb1 : ¬ (x1).toInt = 1 := am_neI b1
  have nb6 : ¬ (x1).toInt = 2 := am_neI b6
  have nb11 : ¬ (x1).toInt = 3 := am_neI b11
  have nb16 : ¬ (x1).toInt = 4 := am_neI b16
  have nb21 : ¬ (x1).toInt = 5 := am_neI b21
  refine am_swOut 90 dX5_drawn_1 (by omega) rfl ?_
  refine am_aload_n dX5_drawn_90 rfl ?_
  obtain ⟨r27, c26, h⟩ := am_bnd h
  refine am_callVv (as := []) dX5_drawn_91 cv_RX5_321 cb_X5_seeOneHeap sh_5 rfl hk_5 rfl rfl (Nat.le_of_ble_eq_true rfl) (c_X5_seeOneHeap c26) ?_
  refine am_aload_n dX5_drawn_94 rfl ?_
  refine am_iconst dX5_drawn_95 ic_0 ?_
  refine am_iconst dX5_drawn_96 ic_0 ?_
  obtain ⟨r29, c28, h⟩ := am_bnd h
  refine am_callVl (as := [.inl (0 : Int32), .inl (0 : Int32)]) dX5_drawn_97 cv_RX5_273 cb_X5_count sh_5 rfl hk_5 rfl rfl (Nat.le_of_ble_eq_true rfl) (c_X5_count c28) ?_
  refine am_aload_n dX5_drawn_100 rfl ?_
  refine am_bipush dX5_drawn_101 bp_6 ?_
  refine am_iload_n dX5_drawn_103 rfl ?_
  obtain ⟨r31, c30, h⟩ := am_bnd h
  refine am_callVl (as := [.inl (6 : Int32), .inl x2]) dX5_drawn_104 cv_RX5_273 cb_X5_count sh_5 rfl hk_5 rfl rfl (Nat.le_of_ble_eq_true rfl) (c_X5_count c30) ?_
  refine am_lsub dX5_drawn_107 ?_
  obtain rfl := Option.some.inj h
  exact am_lreturn dX5_drawn_108 rfl hp
theorem c_X5_drawn {K : am_K} {d : Nat} {M : am_M} {o : Nat} {x1 : Int32} {x2 : Int32} {y : Int64 × am_M} (h : f_X5_drawn M o x1 x2 = some y) : am_Met K (d + 4) m_X5_drawn [.inr (.inr (5, o, 0)), .inl x1, .inl x2] M (fun q N => q = some (.inr (.inl y.1)) ∧ N = y.2) :=
  am_Met_of cb_X5_drawn (Nat.le_of_ble_eq_true rfl) (w_X5_drawn h ⟨rfl, rfl⟩)
def f_X5_says (M : am_M) (o : Nat) (x1 : Int32) (x2 : Int32) : Option (Int32 × am_M) :=
  (f_X5_in M x1.toInt64 (0 : Int64) (7 : Int64)).bind (fun r2 => (if r2 = 0 then (f_X5_refuse M o (-2 : Int32)).bind (fun r4 => some (r4.1, r4.2)) else (f_X5_in M x2.toInt64 (0 : Int64) (6 : Int64)).bind (fun r6 => (if r6 = 0 then (f_X5_refuse M o (-2 : Int32)).bind (fun r40 => some (r40.1, r40.2)) else if am_inb x1 8 = true then (if (M.1 600 o 0 x1.toNatClampNeg) = (1 : Int32) then (f_X5_refuse M o (-3 : Int32)).bind (fun r9 => some (r9.1, r9.2)) else if am_inb x1 8 = true then (if (M.1 600 o 0 x1.toNatClampNeg) = (2 : Int32) then if am_inb x1 8 = true then (f_X5_isUnder M (M.1 605 o 0 x1.toNatClampNeg) x2).bind (fun r23 => (if r23 = 0 then (f_X5_refuse M o (-3 : Int32)).bind (fun r35 => some (r35.1, r35.2)) else if am_inb x1 8 = true then (if (M.1 600 o 0 x1.toNatClampNeg) = 0 then (f_X5_refuse M o (-4 : Int32)).bind (fun r32 => some (r32.1, r32.2)) else (if x2 = 0 then if am_inb x1 8 = true then some ((M.1 606 o 0 x1.toNatClampNeg), M) else none else if am_inb x1 8 = true then if am_inb x1 8 = true then (f_X5_drawn M o (M.1 605 o 0 x1.toNatClampNeg) (M.1 606 o 0 x1.toNatClampNeg)).bind (fun r28 => some (r28.1.toInt32, r28.2)) else none else none)) else none)) else none else if am_inb x1 8 = true then (if (M.1 600 o 0 x1.toNatClampNeg) = 0 then (f_X5_refuse M o (-4 : Int32)).bind (fun r19 => some (r19.1, r19.2)) else (if x2 = 0 then if am_inb x1 8 = true then some ((M.1 606 o 0 x1.toNatClampNeg), M) else none else if am_inb x1 8 = true then if am_inb x1 8 = true then (f_X5_drawn M o (M.1 605 o 0 x1.toNatClampNeg) (M.1 606 o 0 x1.toNatClampNeg)).bind (fun r15 => some (r15.1.toInt32, r15.2)) else none else none)) else none) else none) else none))))
set_option maxHeartbeats 4000000 in
theorem w_X5_says {K : am_K} {d : Nat} {post : Option am_V → am_M → Prop} {M : am_M} {o : Nat} {x1 : Int32} {x2 : Int32} {y : Int32 × am_M} (h : f_X5_says M o x1 x2 = some y) (hp : post (some (.inl y.1)) y.2) : am_W K (d + 5) m_X5_says 0 [(0, .inr (.inr (5, o, 0))), (1, .inl x1), (2, .inl x2)] [] M post := by
  unfold f_X5_says at h
  refine am_iload_n dX5_says_0 rfl ?_
  refine am_i2l dX5_says_1 ?_
  refine am_lconst dX5_says_2 lc_0 ?_
  refine am_ldc2 dX5_says_3 kc_RX5_93 ?_
  obtain ⟨r2, c1, h⟩ := am_bnd h
  refine am_callSi (as := [.inr (.inl x1.toInt64), .inr (.inl (0 : Int64)), .inr (.inl (7 : Int64))]) dX5_says_6 cs_RX5_95 cb_X5_in rfl rfl (Nat.le_of_ble_eq_true rfl) (c_X5_in c1) ?_
  refine am_if_eq 24 dX5_says_9 rfl (fun b42 => ?_) (fun b42 => ?_)
  · replace h := am_ifT b42 h
    refine am_aload_n dX5_says_24 rfl ?_
    refine am_bipush dX5_says_25 bp_m2 ?_
    obtain ⟨r4, c3, h⟩ := am_bnd h
    refine am_callVi (as := [.inl (-2 : Int32)]) dX5_says_27 cv_RX5_103 cb_X5_refuse sh_5 rfl hk_5 rfl rfl (Nat.le_of_ble_eq_true rfl) (c_X5_refuse c3) ?_
    obtain rfl := Option.some.inj h
    exact am_ireturn dX5_says_30 rfl rfl hp
  · replace h := am_ifF b42 h
    refine am_iload_n dX5_says_12 rfl ?_
    refine am_i2l dX5_says_13 ?_
    refine am_lconst dX5_says_14 lc_0 ?_
    refine am_ldc2 dX5_says_15 kc_RX5_118 ?_
    obtain ⟨r6, c5, h⟩ := am_bnd h
    refine am_callSi (as := [.inr (.inl x2.toInt64), .inr (.inl (0 : Int64)), .inr (.inl (6 : Int64))]) dX5_says_18 cs_RX5_95 cb_X5_in rfl rfl (Nat.le_of_ble_eq_true rfl) (c_X5_in c5) ?_
    refine am_if_ne 31 dX5_says_21 rfl (fun b41 => ?_) (fun b41 => ?_)
    · replace h := am_ifF b41 h
      refine am_aload_n dX5_says_31 rfl ?_
      refine am_getR (o' := o) dX5_says_32 fl_RX5_7 sh_5 rfl rfl hk_5 ?_
      refine am_iload_n dX5_says_35 rfl ?_
      obtain ⟨g7, h⟩ := am_grd h
      refine am_iaload dX5_says_36 sh_600 hk_600 (am_inbE g7) ?_
      refine am_iconst dX5_says_37 ic_1 ?_
      refine am_icmp_eq 64 dX5_says_38 rfl (fun b38 => ?_) (fun b38 => ?_)
      · replace h := am_ifT b38 h
        refine am_aload_n dX5_says_64 rfl ?_
        refine am_bipush dX5_says_65 bp_m3 ?_
        obtain ⟨r9, c8, h⟩ := am_bnd h
        refine am_callVi (as := [.inl (-3 : Int32)]) dX5_says_67 cv_RX5_103 cb_X5_refuse sh_5 rfl hk_5 rfl rfl (Nat.le_of_ble_eq_true rfl) (c_X5_refuse c8) ?_
        obtain rfl := Option.some.inj h
        exact am_ireturn dX5_says_70 rfl rfl hp
      · replace h := am_ifF b38 h
        refine am_aload_n dX5_says_41 rfl ?_
        refine am_getR (o' := o) dX5_says_42 fl_RX5_7 sh_5 rfl rfl hk_5 ?_
        refine am_iload_n dX5_says_45 rfl ?_
        obtain ⟨g10, h⟩ := am_grd h
        refine am_iaload dX5_says_46 sh_600 hk_600 (am_inbE g10) ?_
        refine am_iconst dX5_says_47 ic_2 ?_
        refine am_icmp_ne 71 dX5_says_48 rfl (fun b37 => ?_) (fun b37 => ?_)
        · replace h := am_ifF b37 h
          refine am_aload_n dX5_says_71 rfl ?_
          refine am_getR (o' := o) dX5_says_72 fl_RX5_7 sh_5 rfl rfl hk_5 ?_
          refine am_iload_n dX5_says_75 rfl ?_
          obtain ⟨g11, h⟩ := am_grd h
          refine am_iaload dX5_says_76 sh_600 hk_600 (am_inbE g11) ?_
          refine am_if_ne 87 dX5_says_77 rfl (fun b20 => ?_) (fun b20 => ?_)
          · replace h := am_ifF b20 h
            refine am_iload_n dX5_says_87 rfl ?_
            refine am_if_ne 100 dX5_says_88 rfl (fun b17 => ?_) (fun b17 => ?_)
            · replace h := am_ifF b17 h
              refine am_aload_n dX5_says_100 rfl ?_
              refine am_aload_n dX5_says_101 rfl ?_
              refine am_getR (o' := o) dX5_says_102 fl_RX5_28 sh_5 rfl rfl hk_5 ?_
              refine am_iload_n dX5_says_105 rfl ?_
              obtain ⟨g12, h⟩ := am_grd h
              refine am_iaload dX5_says_106 sh_605 hk_605 (am_inbE g12) ?_
              refine am_aload_n dX5_says_107 rfl ?_
              refine am_getR (o' := o) dX5_says_108 fl_RX5_31 sh_5 rfl rfl hk_5 ?_
              refine am_iload_n dX5_says_111 rfl ?_
              obtain ⟨g13, h⟩ := am_grd h
              refine am_iaload dX5_says_112 sh_606 hk_606 (am_inbE g13) ?_
              obtain ⟨r15, c14, h⟩ := am_bnd h
              refine am_callVl (as := [.inl (M.1 605 o 0 x1.toNatClampNeg), .inl (M.1 606 o 0 x1.toNatClampNeg)]) dX5_says_113 cv_RX5_126 cb_X5_drawn sh_5 rfl hk_5 rfl rfl (Nat.le_of_ble_eq_true rfl) (c_X5_drawn c14) ?_
              refine am_l2i dX5_says_116 ?_
              obtain rfl := Option.some.inj h
              exact am_ireturn dX5_says_117 rfl rfl hp
            · replace h := am_ifT b17 h
              refine am_aload_n dX5_says_91 rfl ?_
              refine am_getR (o' := o) dX5_says_92 fl_RX5_31 sh_5 rfl rfl hk_5 ?_
              refine am_iload_n dX5_says_95 rfl ?_
              obtain ⟨g16, h⟩ := am_grd h
              refine am_iaload dX5_says_96 sh_606 hk_606 (am_inbE g16) ?_
              refine am_goto 117 dX5_says_97 rfl ?_
              obtain rfl := Option.some.inj h
              exact am_ireturn dX5_says_117 rfl rfl hp
          · replace h := am_ifT b20 h
            refine am_aload_n dX5_says_80 rfl ?_
            refine am_bipush dX5_says_81 bp_m4 ?_
            obtain ⟨r19, c18, h⟩ := am_bnd h
            refine am_callVi (as := [.inl (-4 : Int32)]) dX5_says_83 cv_RX5_103 cb_X5_refuse sh_5 rfl hk_5 rfl rfl (Nat.le_of_ble_eq_true rfl) (c_X5_refuse c18) ?_
            obtain rfl := Option.some.inj h
            exact am_ireturn dX5_says_86 rfl rfl hp
        · replace h := am_ifT b37 h
          refine am_aload_n dX5_says_51 rfl ?_
          refine am_getR (o' := o) dX5_says_52 fl_RX5_28 sh_5 rfl rfl hk_5 ?_
          refine am_iload_n dX5_says_55 rfl ?_
          obtain ⟨g21, h⟩ := am_grd h
          refine am_iaload dX5_says_56 sh_605 hk_605 (am_inbE g21) ?_
          refine am_iload_n dX5_says_57 rfl ?_
          obtain ⟨r23, c22, h⟩ := am_bnd h
          refine am_callSi (as := [.inl (M.1 605 o 0 x1.toNatClampNeg), .inl x2]) dX5_says_58 cs_RX5_122 cb_X5_isUnder rfl rfl (Nat.le_of_ble_eq_true rfl) (c_X5_isUnder c22) ?_
          refine am_if_ne 71 dX5_says_61 rfl (fun b36 => ?_) (fun b36 => ?_)
          · replace h := am_ifF b36 h
            refine am_aload_n dX5_says_71 rfl ?_
            refine am_getR (o' := o) dX5_says_72 fl_RX5_7 sh_5 rfl rfl hk_5 ?_
            refine am_iload_n dX5_says_75 rfl ?_
            obtain ⟨g24, h⟩ := am_grd h
            refine am_iaload dX5_says_76 sh_600 hk_600 (am_inbE g24) ?_
            refine am_if_ne 87 dX5_says_77 rfl (fun b33 => ?_) (fun b33 => ?_)
            · replace h := am_ifF b33 h
              refine am_iload_n dX5_says_87 rfl ?_
              refine am_if_ne 100 dX5_says_88 rfl (fun b30 => ?_) (fun b30 => ?_)
              · replace h := am_ifF b30 h
                refine am_aload_n dX5_says_100 rfl ?_
                refine am_aload_n dX5_says_101 rfl ?_
                refine am_getR (o' := o) dX5_says_102 fl_RX5_28 sh_5 rfl rfl hk_5 ?_
                refine am_iload_n dX5_says_105 rfl ?_
                obtain ⟨g25, h⟩ := am_grd h
                refine am_iaload dX5_says_106 sh_605 hk_605 (am_inbE g25) ?_
                refine am_aload_n dX5_says_107 rfl ?_
                refine am_getR (o' := o) dX5_says_108 fl_RX5_31 sh_5 rfl rfl hk_5 ?_
                refine am_iload_n dX5_says_111 rfl ?_
                obtain ⟨g26, h⟩ := am_grd h
                refine am_iaload dX5_says_112 sh_606 hk_606 (am_inbE g26) ?_
                obtain ⟨r28, c27, h⟩ := am_bnd h
                refine am_callVl (as := [.inl (M.1 605 o 0 x1.toNatClampNeg), .inl (M.1 606 o 0 x1.toNatClampNeg)]) dX5_says_113 cv_RX5_126 cb_X5_drawn sh_5 rfl hk_5 rfl rfl (Nat.le_of_ble_eq_true rfl) (c_X5_drawn c27) ?_
                refine am_l2i dX5_says_116 ?_
                obtain rfl := Option.some.inj h
                exact am_ireturn dX5_says_117 rfl rfl hp
              · replace h := am_ifT b30 h
                refine am_aload_n dX5_says_91 rfl ?_
                refine am_getR (o' := o) dX5_says_92 fl_RX5_31 sh_5 rfl rfl hk_5 ?_
                refine am_iload_n dX5_says_95 rfl ?_
                obtain ⟨g29, h⟩ := am_grd h
                refine am_iaload dX5_says_96 sh_606 hk_606 (am_inbE g29) ?_
                refine am_goto 117 dX5_says_97 rfl ?_
                obtain rfl := Option.some.inj h
                exact am_ireturn dX5_says_117 rfl rfl hp
            · replace h := am_ifT b33 h
              refine am_aload_n dX5_says_80 rfl ?_
              refine am_bipush dX5_says_81 bp_m4 ?_
              obtain ⟨r32, c31, h⟩ := am_bnd h
              refine am_callVi (as := [.inl (-4 : Int32)]) dX5_says_83 cv_RX5_103 cb_X5_refuse sh_5 rfl hk_5 rfl rfl (Nat.le_of_ble_eq_true rfl) (c_X5_refuse c31) ?_
              obtain rfl := Option.some.inj h
              exact am_ireturn dX5_says_86 rfl rfl hp
          · replace h := am_ifT b36 h
            refine am_aload_n dX5_says_64 rfl ?_
            refine am_bipush dX5_says_65 bp_m3 ?_
            obtain ⟨r35, c34, h⟩ := am_bnd h
            refine am_callVi (as := [.inl (-3 : Int32)]) dX5_says_67 cv_RX5_103 cb_X5_refuse sh_5 rfl hk_5 rfl rfl (Nat.le_of_ble_eq_true rfl) (c_X5_refuse c34) ?_
            obtain rfl := Option.some.inj h
            exact am_ireturn dX5_says_70 rfl rfl hp
    · replace h := am_ifT b41 h
      refine am_aload_n dX5_says_24 rfl ?_
      refine am_bipush dX5_says_25 bp_m2 ?_
      obtain ⟨r40, c39, h⟩ := am_bnd h
      refine am_callVi (as := [.inl (-2 : Int32)]) dX5_says_27 cv_RX5_103 cb_X5_refuse sh_5 rfl hk_5 rfl rfl (Nat.le_of_ble_eq_true rfl) (c_X5_refuse c39) ?_
      obtain rfl := Option.some.inj h
      exact am_ireturn dX5_says_30 rfl rfl hp
theorem c_X5_says {K : am_K} {d : Nat} {M : am_M} {o : Nat} {x1 : Int32} {x2 : Int32} {y : Int32 × am_M} (h : f_X5_says M o x1 x2 = some y) : am_Met K (d + 5) m_X5_says [.inr (.inr (5, o, 0)), .inl x1, .inl x2] M (fun q N => q = some (.inl y.1) ∧ N = y.2) :=
  am_Met_of cb_X5_says (Nat.le_of_ble_eq_true rfl) (w_X5_says h ⟨rfl, rfl⟩)
def f_X5_addHeap (M : am_M) (o : Nat) (x1 : Int32) (x2 : Int32) : Option (am_M) :=
  if am_inb (M.1 5 o 0 10) 4 = true then am_let (am_si M 611 o 0 (M.1 5 o 0 10).toNatClampNeg x1) (fun M2 => if am_inb (M2.1 5 o 0 10) 4 = true then am_let (am_si M2 612 o 0 (M2.1 5 o 0 10).toNatClampNeg x2) (fun M4 => if am_inb (M4.1 5 o 0 10) 4 = true then am_let (am_si M4 613 o 0 (M4.1 5 o 0 10).toNatClampNeg (M4.1 5 o 0 10)) (fun M6 => am_let (am_si M6 5 o 0 10 ((M6.1 5 o 0 10) + (1 : Int32))) (fun M7 => some M7)) else none) else none) else none
set_option maxHeartbeats 4000000 in
theorem w_X5_addHeap {K : am_K} {d : Nat} {post : Option am_V → am_M → Prop} {M : am_M} {o : Nat} {x1 : Int32} {x2 : Int32} {y : am_M} (h : f_X5_addHeap M o x1 x2 = some y) (hp : post none y) : am_W K d m_X5_addHeap 0 [(0, .inr (.inr (5, o, 0))), (1, .inl x1), (2, .inl x2)] [] M post := by
  unfold f_X5_addHeap at h
  refine am_aload_n dX5_addHeap_0 rfl ?_
  refine am_getR (o' := o) dX5_addHeap_1 fl_RX5_40 sh_5 rfl rfl hk_5 ?_
  refine am_aload_n dX5_addHeap_4 rfl ?_
  refine am_getI dX5_addHeap_5 fl_RX5_130 sh_5 rfl hk_5 ?_
  refine am_iload_n dX5_addHeap_8 rfl ?_
  obtain ⟨g1, h⟩ := am_grd h
  obtain ⟨M2, eM2, h⟩ := am_letE h
  refine am_iastore dX5_addHeap_9 sh_611 hk_611 (am_inbE g1) ?_
  refine am_mem eM2 ?_
  refine am_aload_n dX5_addHeap_10 rfl ?_
  refine am_getR (o' := o) dX5_addHeap_11 fl_RX5_43 sh_5 rfl rfl hk_5 ?_
  refine am_aload_n dX5_addHeap_14 rfl ?_
  refine am_getI dX5_addHeap_15 fl_RX5_130 sh_5 rfl hk_5 ?_
  refine am_iload_n dX5_addHeap_18 rfl ?_
  obtain ⟨g3, h⟩ := am_grd h
  obtain ⟨M4, eM4, h⟩ := am_letE h
  refine am_iastore dX5_addHeap_19 sh_612 hk_612 (am_inbE g3) ?_
  refine am_mem eM4 ?_
  refine am_aload_n dX5_addHeap_20 rfl ?_
  refine am_getR (o' := o) dX5_addHeap_21 fl_RX5_46 sh_5 rfl rfl hk_5 ?_
  refine am_aload_n dX5_addHeap_24 rfl ?_
  refine am_getI dX5_addHeap_25 fl_RX5_130 sh_5 rfl hk_5 ?_
  refine am_aload_n dX5_addHeap_28 rfl ?_
  refine am_getI dX5_addHeap_29 fl_RX5_130 sh_5 rfl hk_5 ?_
  obtain ⟨g5, h⟩ := am_grd h
  obtain ⟨M6, eM6, h⟩ := am_letE h
  refine am_iastore dX5_addHeap_32 sh_613 hk_613 (am_inbE g5) ?_
  refine am_mem eM6 ?_
  refine am_aload_n dX5_addHeap_33 rfl ?_
  refine am_dup dX5_addHeap_34 rfl ?_
  refine am_getI dX5_addHeap_35 fl_RX5_130 sh_5 rfl hk_5 ?_
  refine am_iconst dX5_addHeap_38 ic_1 ?_
  refine am_iadd dX5_addHeap_39 ?_
  obtain ⟨M7, eM7, h⟩ := am_letE h
  refine am_putI dX5_addHeap_40 fl_RX5_130 fp_X5_10 sh_5 rfl rfl rfl hk_5 ?_
  refine am_mem eM7 ?_
  obtain rfl := Option.some.inj h
  exact am_return dX5_addHeap_43 rfl hp
theorem c_X5_addHeap {K : am_K} {d : Nat} {M : am_M} {o : Nat} {x1 : Int32} {x2 : Int32} {y : am_M} (h : f_X5_addHeap M o x1 x2 = some y) : am_Met K d m_X5_addHeap [.inr (.inr (5, o, 0)), .inl x1, .inl x2] M (fun q N => q = none ∧ N = y) :=
  am_Met_of cb_X5_addHeap (Nat.le_of_ble_eq_true rfl) (w_X5_addHeap h ⟨rfl, rfl⟩)
def f_X5_heap (M : am_M) (o : Nat) (x1 : Int32) (x2 : Int32) : Option (Int32 × am_M) :=
  (f_X5_in M x1.toInt64 (0 : Int64) (9 : Int64)).bind (fun r2 => (if r2 = 0 then (f_X5_refuse M o (-2 : Int32)).bind (fun r4 => some (r4.1, r4.2)) else (f_X5_in M x2.toInt64 (0 : Int64) (9 : Int64)).bind (fun r6 => (if r6 = 0 then (f_X5_refuse M o (-2 : Int32)).bind (fun r8 => some (r8.1, r8.2)) else (if (x1 + x2) = 0 then (f_X5_refuse M o (-2 : Int32)).bind (fun r23 => some (r23.1, r23.2)) else (if (M.1 5 o 0 16) ≤ 0 then (if (M.1 5 o 0 10) = (4 : Int32) then (f_X5_refuse M o (-6 : Int32)).bind (fun r10 => some (r10.1, r10.2)) else (f_X5_all M o).bind (fun r12 => (if ((r12 + x1) + x2) ≤ (24 : Int32) then (f_X5_addHeap M o x1 x2).bind (fun r14 => some ((r14.1 5 o 0 10) - (1 : Int32), r14)) else (f_X5_refuse M o (-6 : Int32)).bind (fun r16 => some (r16.1, r16.2))))) else (f_X5_refuse M o (-5 : Int32)).bind (fun r20 => some (r20.1, r20.2))))))))
set_option maxHeartbeats 4000000 in
theorem w_X5_heap {K : am_K} {d : Nat} {post : Option am_V → am_M → Prop} {M : am_M} {o : Nat} {x1 : Int32} {x2 : Int32} {y : Int32 × am_M} (h : f_X5_heap M o x1 x2 = some y) (hp : post (some (.inl y.1)) y.2) : am_W K (d + 2) m_X5_heap 0 [(0, .inr (.inr (5, o, 0))), (1, .inl x1), (2, .inl x2)] [] M post := by
  unfold f_X5_heap at h
  refine am_iload_n dX5_heap_0 rfl ?_
  refine am_i2l dX5_heap_1 ?_
  refine am_lconst dX5_heap_2 lc_0 ?_
  refine am_ldc2 dX5_heap_3 kc_RX5_120 ?_
  obtain ⟨r2, c1, h⟩ := am_bnd h
  refine am_callSi (as := [.inr (.inl x1.toInt64), .inr (.inl (0 : Int64)), .inr (.inl (9 : Int64))]) dX5_heap_6 cs_RX5_95 cb_X5_in rfl rfl (Nat.le_of_ble_eq_true rfl) (c_X5_in c1) ?_
  refine am_if_eq 30 dX5_heap_9 rfl (fun b26 => ?_) (fun b26 => ?_)
  · replace h := am_ifT b26 h
    refine am_aload_n dX5_heap_30 rfl ?_
    refine am_bipush dX5_heap_31 bp_m2 ?_
    obtain ⟨r4, c3, h⟩ := am_bnd h
    refine am_callVi (as := [.inl (-2 : Int32)]) dX5_heap_33 cv_RX5_103 cb_X5_refuse sh_5 rfl hk_5 rfl rfl (Nat.le_of_ble_eq_true rfl) (c_X5_refuse c3) ?_
    obtain rfl := Option.some.inj h
    exact am_ireturn dX5_heap_36 rfl rfl hp
  · replace h := am_ifF b26 h
    refine am_iload_n dX5_heap_12 rfl ?_
    refine am_i2l dX5_heap_13 ?_
    refine am_lconst dX5_heap_14 lc_0 ?_
    refine am_ldc2 dX5_heap_15 kc_RX5_120 ?_
    obtain ⟨r6, c5, h⟩ := am_bnd h
    refine am_callSi (as := [.inr (.inl x2.toInt64), .inr (.inl (0 : Int64)), .inr (.inl (9 : Int64))]) dX5_heap_18 cs_RX5_95 cb_X5_in rfl rfl (Nat.le_of_ble_eq_true rfl) (c_X5_in c5) ?_
    refine am_if_eq 30 dX5_heap_21 rfl (fun b25 => ?_) (fun b25 => ?_)
    · replace h := am_ifT b25 h
      refine am_aload_n dX5_heap_30 rfl ?_
      refine am_bipush dX5_heap_31 bp_m2 ?_
      obtain ⟨r8, c7, h⟩ := am_bnd h
      refine am_callVi (as := [.inl (-2 : Int32)]) dX5_heap_33 cv_RX5_103 cb_X5_refuse sh_5 rfl hk_5 rfl rfl (Nat.le_of_ble_eq_true rfl) (c_X5_refuse c7) ?_
      obtain rfl := Option.some.inj h
      exact am_ireturn dX5_heap_36 rfl rfl hp
    · replace h := am_ifF b25 h
      refine am_iload_n dX5_heap_24 rfl ?_
      refine am_iload_n dX5_heap_25 rfl ?_
      refine am_iadd dX5_heap_26 ?_
      refine am_if_ne 37 dX5_heap_27 rfl (fun b24 => ?_) (fun b24 => ?_)
      · replace h := am_ifF b24 h
        refine am_aload_n dX5_heap_37 rfl ?_
        refine am_getI dX5_heap_38 fl_RX5_137 sh_5 rfl hk_5 ?_
        refine am_if_le 51 dX5_heap_41 rfl (fun b21 => ?_) (fun b21 => ?_)
        · replace h := am_ifT b21 h
          refine am_aload_n dX5_heap_51 rfl ?_
          refine am_getI dX5_heap_52 fl_RX5_130 sh_5 rfl hk_5 ?_
          refine am_iconst dX5_heap_55 ic_4 ?_
          refine am_icmp_eq 72 dX5_heap_56 rfl (fun b18 => ?_) (fun b18 => ?_)
          · replace h := am_ifT b18 h
            refine am_aload_n dX5_heap_72 rfl ?_
            refine am_bipush dX5_heap_73 bp_m6 ?_
            obtain ⟨r10, c9, h⟩ := am_bnd h
            refine am_callVi (as := [.inl (-6 : Int32)]) dX5_heap_75 cv_RX5_103 cb_X5_refuse sh_5 rfl hk_5 rfl rfl (Nat.le_of_ble_eq_true rfl) (c_X5_refuse c9) ?_
            obtain rfl := Option.some.inj h
            exact am_ireturn dX5_heap_78 rfl rfl hp
          · replace h := am_ifF b18 h
            refine am_aload_n dX5_heap_59 rfl ?_
            obtain ⟨r12, c11, h⟩ := am_bnd h
            refine am_callVi (as := []) dX5_heap_60 cv_RX5_140 cb_X5_all sh_5 rfl hk_5 rfl rfl (Nat.le_of_ble_eq_true rfl) (c_X5_all c11) ?_
            refine am_iload_n dX5_heap_63 rfl ?_
            refine am_iadd dX5_heap_64 ?_
            refine am_iload_n dX5_heap_65 rfl ?_
            refine am_iadd dX5_heap_66 ?_
            refine am_bipush dX5_heap_67 bp_24 ?_
            refine am_icmp_le 79 dX5_heap_69 rfl (fun b17 => ?_) (fun b17 => ?_)
            · replace h := am_ifT b17 h
              refine am_aload_n dX5_heap_79 rfl ?_
              refine am_iload_n dX5_heap_80 rfl ?_
              refine am_iload_n dX5_heap_81 rfl ?_
              obtain ⟨r14, c13, h⟩ := am_bnd h
              refine am_callVv (as := [.inl x1, .inl x2]) dX5_heap_82 cv_RX5_143 cb_X5_addHeap sh_5 rfl hk_5 rfl rfl (Nat.le_of_ble_eq_true rfl) (c_X5_addHeap c13) ?_
              refine am_aload_n dX5_heap_85 rfl ?_
              refine am_getI dX5_heap_86 fl_RX5_130 sh_5 rfl hk_5 ?_
              refine am_iconst dX5_heap_89 ic_1 ?_
              refine am_isub dX5_heap_90 ?_
              obtain rfl := Option.some.inj h
              exact am_ireturn dX5_heap_91 rfl rfl hp
            · replace h := am_ifF b17 h
              refine am_aload_n dX5_heap_72 rfl ?_
              refine am_bipush dX5_heap_73 bp_m6 ?_
              obtain ⟨r16, c15, h⟩ := am_bnd h
              refine am_callVi (as := [.inl (-6 : Int32)]) dX5_heap_75 cv_RX5_103 cb_X5_refuse sh_5 rfl hk_5 rfl rfl (Nat.le_of_ble_eq_true rfl) (c_X5_refuse c15) ?_
              obtain rfl := Option.some.inj h
              exact am_ireturn dX5_heap_78 rfl rfl hp
        · replace h := am_ifF b21 h
          refine am_aload_n dX5_heap_44 rfl ?_
          refine am_bipush dX5_heap_45 bp_m5 ?_
          obtain ⟨r20, c19, h⟩ := am_bnd h
          refine am_callVi (as := [.inl (-5 : Int32)]) dX5_heap_47 cv_RX5_103 cb_X5_refuse sh_5 rfl hk_5 rfl rfl (Nat.le_of_ble_eq_true rfl) (c_X5_refuse c19) ?_
          obtain rfl := Option.some.inj h
          exact am_ireturn dX5_heap_50 rfl rfl hp
      · replace h := am_ifT b24 h
        refine am_aload_n dX5_heap_30 rfl ?_
        refine am_bipush dX5_heap_31 bp_m2 ?_
        obtain ⟨r23, c22, h⟩ := am_bnd h
        refine am_callVi (as := [.inl (-2 : Int32)]) dX5_heap_33 cv_RX5_103 cb_X5_refuse sh_5 rfl hk_5 rfl rfl (Nat.le_of_ble_eq_true rfl) (c_X5_refuse c22) ?_
        obtain rfl := Option.some.inj h
        exact am_ireturn dX5_heap_36 rfl rfl hp
theorem c_X5_heap {K : am_K} {d : Nat} {M : am_M} {o : Nat} {x1 : Int32} {x2 : Int32} {y : Int32 × am_M} (h : f_X5_heap M o x1 x2 = some y) : am_Met K (d + 2) m_X5_heap [.inr (.inr (5, o, 0)), .inl x1, .inl x2] M (fun q N => q = some (.inl y.1) ∧ N = y.2) :=
  am_Met_of cb_X5_heap (Nat.le_of_ble_eq_true rfl) (w_X5_heap h ⟨rfl, rfl⟩)
def f_X5_fact (M : am_M) (o : Nat) (x1 : Int32) (x2 : Int32) (x3 : Int32) : Option (Int32 × am_M) :=
  (f_X5_in M x1.toInt64 (0 : Int64) (3 : Int64)).bind (fun r2 => (if r2 = 0 then (f_X5_refuse M o (-2 : Int32)).bind (fun r4 => some (r4.1, r4.2)) else (f_X5_in M x2.toInt64 (0 : Int64) (24 : Int64)).bind (fun r6 => (if r6 = 0 then (f_X5_refuse M o (-2 : Int32)).bind (fun r8 => some (r8.1, r8.2)) else (f_X5_in M x3.toInt64 (0 : Int64) (24 : Int64)).bind (fun r10 => (if r10 = 0 then (f_X5_refuse M o (-2 : Int32)).bind (fun r22 => some (r22.1, r22.2)) else (if (M.1 5 o 0 14) = (4 : Int32) then (f_X5_refuse M o (-6 : Int32)).bind (fun r19 => some (r19.1, r19.2)) else if am_inb (M.1 5 o 0 14) 4 = true then am_let (am_si M 715 o (M.1 5 o 0 14).toNatClampNeg (0 : Int32).toNatClampNeg x1) (fun M12 => if am_inb (M12.1 5 o 0 14) 4 = true then am_let (am_si M12 715 o (M12.1 5 o 0 14).toNatClampNeg (1 : Int32).toNatClampNeg x2) (fun M14 => if am_inb (M14.1 5 o 0 14) 4 = true then am_let (am_si M14 715 o (M14.1 5 o 0 14).toNatClampNeg (2 : Int32).toNatClampNeg x3) (fun M16 => am_let (am_si M16 5 o 0 14 ((M16.1 5 o 0 14) + (1 : Int32))) (fun M17 => some ((M16.1 5 o 0 14), M17))) else none) else none) else none)))))))
set_option maxHeartbeats 4000000 in
theorem w_X5_fact {K : am_K} {d : Nat} {post : Option am_V → am_M → Prop} {M : am_M} {o : Nat} {x1 : Int32} {x2 : Int32} {x3 : Int32} {y : Int32 × am_M} (h : f_X5_fact M o x1 x2 x3 = some y) (hp : post (some (.inl y.1)) y.2) : am_W K (d + 1) m_X5_fact 0 [(0, .inr (.inr (5, o, 0))), (1, .inl x1), (2, .inl x2), (3, .inl x3)] [] M post := by
  unfold f_X5_fact at h
  refine am_iload_n dX5_fact_0 rfl ?_
  refine am_i2l dX5_fact_1 ?_
  refine am_lconst dX5_fact_2 lc_0 ?_
  refine am_ldc2 dX5_fact_3 kc_RX5_147 ?_
  obtain ⟨r2, c1, h⟩ := am_bnd h
  refine am_callSi (as := [.inr (.inl x1.toInt64), .inr (.inl (0 : Int64)), .inr (.inl (3 : Int64))]) dX5_fact_6 cs_RX5_95 cb_X5_in rfl rfl (Nat.le_of_ble_eq_true rfl) (c_X5_in c1) ?_
  refine am_if_eq 36 dX5_fact_9 rfl (fun b25 => ?_) (fun b25 => ?_)
  · replace h := am_ifT b25 h
    refine am_aload_n dX5_fact_36 rfl ?_
    refine am_bipush dX5_fact_37 bp_m2 ?_
    obtain ⟨r4, c3, h⟩ := am_bnd h
    refine am_callVi (as := [.inl (-2 : Int32)]) dX5_fact_39 cv_RX5_103 cb_X5_refuse sh_5 rfl hk_5 rfl rfl (Nat.le_of_ble_eq_true rfl) (c_X5_refuse c3) ?_
    obtain rfl := Option.some.inj h
    exact am_ireturn dX5_fact_42 rfl rfl hp
  · replace h := am_ifF b25 h
    refine am_iload_n dX5_fact_12 rfl ?_
    refine am_i2l dX5_fact_13 ?_
    refine am_lconst dX5_fact_14 lc_0 ?_
    refine am_ldc2 dX5_fact_15 kc_RX5_149 ?_
    obtain ⟨r6, c5, h⟩ := am_bnd h
    refine am_callSi (as := [.inr (.inl x2.toInt64), .inr (.inl (0 : Int64)), .inr (.inl (24 : Int64))]) dX5_fact_18 cs_RX5_95 cb_X5_in rfl rfl (Nat.le_of_ble_eq_true rfl) (c_X5_in c5) ?_
    refine am_if_eq 36 dX5_fact_21 rfl (fun b24 => ?_) (fun b24 => ?_)
    · replace h := am_ifT b24 h
      refine am_aload_n dX5_fact_36 rfl ?_
      refine am_bipush dX5_fact_37 bp_m2 ?_
      obtain ⟨r8, c7, h⟩ := am_bnd h
      refine am_callVi (as := [.inl (-2 : Int32)]) dX5_fact_39 cv_RX5_103 cb_X5_refuse sh_5 rfl hk_5 rfl rfl (Nat.le_of_ble_eq_true rfl) (c_X5_refuse c7) ?_
      obtain rfl := Option.some.inj h
      exact am_ireturn dX5_fact_42 rfl rfl hp
    · replace h := am_ifF b24 h
      refine am_iload_n dX5_fact_24 rfl ?_
      refine am_i2l dX5_fact_25 ?_
      refine am_lconst dX5_fact_26 lc_0 ?_
      refine am_ldc2 dX5_fact_27 kc_RX5_149 ?_
      obtain ⟨r10, c9, h⟩ := am_bnd h
      refine am_callSi (as := [.inr (.inl x3.toInt64), .inr (.inl (0 : Int64)), .inr (.inl (24 : Int64))]) dX5_fact_30 cs_RX5_95 cb_X5_in rfl rfl (Nat.le_of_ble_eq_true rfl) (c_X5_in c9) ?_
      refine am_if_ne 43 dX5_fact_33 rfl (fun b23 => ?_) (fun b23 => ?_)
      · replace h := am_ifF b23 h
        refine am_aload_n dX5_fact_43 rfl ?_
        refine am_getI dX5_fact_44 fl_RX5_151 sh_5 rfl hk_5 ?_
        refine am_iconst dX5_fact_47 ic_4 ?_
        refine am_icmp_ne 58 dX5_fact_48 rfl (fun b20 => ?_) (fun b20 => ?_)
        · replace h := am_ifF b20 h
          refine am_aload_n dX5_fact_58 rfl ?_
          refine am_getR (o' := o) dX5_fact_59 fl_RX5_51 sh_5 rfl rfl hk_5 ?_
          refine am_aload_n dX5_fact_62 rfl ?_
          refine am_getI dX5_fact_63 fl_RX5_151 sh_5 rfl hk_5 ?_
          obtain ⟨g11, h⟩ := am_grd h
          refine am_aaload dX5_fact_66 sh_615 rfl rfl hk_615 (am_inbE g11) ?_
          refine am_top (w := .inr (.inr (715, o, (M.1 5 o 0 14).toNatClampNeg))) rfl ?_
          refine am_iconst dX5_fact_67 ic_0 ?_
          refine am_iload_n dX5_fact_68 rfl ?_
          obtain ⟨M12, eM12, h⟩ := am_letE h
          refine am_iastore dX5_fact_69 sh_715 hk_715 (am_inbE (by decide)) ?_
          refine am_mem eM12 ?_
          refine am_aload_n dX5_fact_70 rfl ?_
          refine am_getR (o' := o) dX5_fact_71 fl_RX5_51 sh_5 rfl rfl hk_5 ?_
          refine am_aload_n dX5_fact_74 rfl ?_
          refine am_getI dX5_fact_75 fl_RX5_151 sh_5 rfl hk_5 ?_
          obtain ⟨g13, h⟩ := am_grd h
          refine am_aaload dX5_fact_78 sh_615 rfl rfl hk_615 (am_inbE g13) ?_
          refine am_top (w := .inr (.inr (715, o, (M12.1 5 o 0 14).toNatClampNeg))) rfl ?_
          refine am_iconst dX5_fact_79 ic_1 ?_
          refine am_iload_n dX5_fact_80 rfl ?_
          obtain ⟨M14, eM14, h⟩ := am_letE h
          refine am_iastore dX5_fact_81 sh_715 hk_715 (am_inbE (by decide)) ?_
          refine am_mem eM14 ?_
          refine am_aload_n dX5_fact_82 rfl ?_
          refine am_getR (o' := o) dX5_fact_83 fl_RX5_51 sh_5 rfl rfl hk_5 ?_
          refine am_aload_n dX5_fact_86 rfl ?_
          refine am_getI dX5_fact_87 fl_RX5_151 sh_5 rfl hk_5 ?_
          obtain ⟨g15, h⟩ := am_grd h
          refine am_aaload dX5_fact_90 sh_615 rfl rfl hk_615 (am_inbE g15) ?_
          refine am_top (w := .inr (.inr (715, o, (M14.1 5 o 0 14).toNatClampNeg))) rfl ?_
          refine am_iconst dX5_fact_91 ic_2 ?_
          refine am_iload_n dX5_fact_92 rfl ?_
          obtain ⟨M16, eM16, h⟩ := am_letE h
          refine am_iastore dX5_fact_93 sh_715 hk_715 (am_inbE (by decide)) ?_
          refine am_mem eM16 ?_
          refine am_aload_n dX5_fact_94 rfl ?_
          refine am_dup dX5_fact_95 rfl ?_
          refine am_getI dX5_fact_96 fl_RX5_151 sh_5 rfl hk_5 ?_
          refine am_dup_x1 dX5_fact_99 rfl rfl ?_
          refine am_iconst dX5_fact_100 ic_1 ?_
          refine am_iadd dX5_fact_101 ?_
          obtain ⟨M17, eM17, h⟩ := am_letE h
          refine am_putI dX5_fact_102 fl_RX5_151 fp_X5_14 sh_5 rfl rfl rfl hk_5 ?_
          refine am_mem eM17 ?_
          obtain rfl := Option.some.inj h
          exact am_ireturn dX5_fact_105 rfl rfl hp
        · replace h := am_ifT b20 h
          refine am_aload_n dX5_fact_51 rfl ?_
          refine am_bipush dX5_fact_52 bp_m6 ?_
          obtain ⟨r19, c18, h⟩ := am_bnd h
          refine am_callVi (as := [.inl (-6 : Int32)]) dX5_fact_54 cv_RX5_103 cb_X5_refuse sh_5 rfl hk_5 rfl rfl (Nat.le_of_ble_eq_true rfl) (c_X5_refuse c18) ?_
          obtain rfl := Option.some.inj h
          exact am_ireturn dX5_fact_57 rfl rfl hp
      · replace h := am_ifT b23 h
        refine am_aload_n dX5_fact_36 rfl ?_
        refine am_bipush dX5_fact_37 bp_m2 ?_
        obtain ⟨r22, c21, h⟩ := am_bnd h
        refine am_callVi (as := [.inl (-2 : Int32)]) dX5_fact_39 cv_RX5_103 cb_X5_refuse sh_5 rfl hk_5 rfl rfl (Nat.le_of_ble_eq_true rfl) (c_X5_refuse c21) ?_
        obtain rfl := Option.some.inj h
        exact am_ireturn dX5_fact_42 rfl rfl hp
theorem c_X5_fact {K : am_K} {d : Nat} {M : am_M} {o : Nat} {x1 : Int32} {x2 : Int32} {x3 : Int32} {y : Int32 × am_M} (h : f_X5_fact M o x1 x2 x3 = some y) : am_Met K (d + 1) m_X5_fact [.inr (.inr (5, o, 0)), .inl x1, .inl x2, .inl x3] M (fun q N => q = some (.inl y.1) ∧ N = y.2) :=
  am_Met_of cb_X5_fact (Nat.le_of_ble_eq_true rfl) (w_X5_fact h ⟨rfl, rfl⟩)
