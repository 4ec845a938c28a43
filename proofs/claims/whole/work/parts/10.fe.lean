def l_X4_often_8 (M : am_M) : Nat → Int32 → Int32 → Option (Int32)
  | 0, _, _ => none
  | n + 1, a1, a2 => (if (24 : Int32) < a2 then some a1 else if am_inb a2 25 = true then if am_inb a1 25 = true then ((if (M.1 102 0 0 a2.toNatClampNeg) ≤ (M.1 102 0 0 a1.toNatClampNeg) then some a1 else some a2) : Option (Int32)).bind (fun z5 => am_let (a2 + (1 : Int32)) (fun v9 => l_X4_often_8 M n z5 v9)) else none else none)
set_option maxHeartbeats 4000000 in
theorem wl_X4_often_8 {K : am_K} {d : Nat} {post : Option am_V → am_M → Prop} {M : am_M} : ∀ (n : Nat) (a1 : Int32) (a2 : Int32) (x : Int32), l_X4_often_8 M n a1 a2 = some x → am_W K (d + 6) m_X4_often 43 [(1, .inl x)] [] M post → am_W K (d + 6) m_X4_often 8 [(0, .inr (.inr (4, 0, 0))), (1, .inl a1), (2, .inl a2)] [] M post := by
  intro n
  induction n with
  | zero => intro a1 a2 x h KX; cases h
  | succ n ih =>
    intro a1 a2 x h KX
    rw [l_X4_often_8] at h
    refine am_iload_n dX4_often_8 rfl ?_
    refine am_bipush dX4_often_9 bp_24 ?_
    refine am_icmp_gt 43 dX4_often_11 rfl (fun b10 => ?_) (fun b10 => ?_)
    · replace h := am_ifT b10 h
      obtain rfl := Option.some.inj h
      exact am_drop [1] rfl KX
    · replace h := am_ifF b10 h
      refine am_aload_n dX4_often_14 rfl ?_
      refine am_getR (o' := 0) dX4_often_15 fl_RX4_25 sh_4 rfl rfl hk_4 ?_
      refine am_getR (o' := 0) dX4_often_18 fl_RX4_224 sh_0 rfl rfl hk_0 ?_
      refine am_iload_n dX4_often_21 rfl ?_
      obtain ⟨g3, h⟩ := am_grd h
      refine am_iaload dX4_often_22 sh_102 hk_102 (am_inbE g3) ?_
      refine am_aload_n dX4_often_23 rfl ?_
      refine am_getR (o' := 0) dX4_often_24 fl_RX4_25 sh_4 rfl rfl hk_4 ?_
      refine am_getR (o' := 0) dX4_often_27 fl_RX4_224 sh_0 rfl rfl hk_0 ?_
      refine am_iload_n dX4_often_30 rfl ?_
      obtain ⟨g4, h⟩ := am_grd h
      refine am_iaload dX4_often_31 sh_102 hk_102 (am_inbE g4) ?_
      obtain ⟨z5, h6, h⟩ := am_bnd h
      have KK7 : am_W K (d + 6) m_X4_often 37 [(0, .inr (.inr (4, 0, 0))), (1, .inl z5), (2, .inl a2)] [] M post := by
        obtain ⟨v9, ev9, h⟩ := am_letE h
        refine am_iinc (ls' := [(0, .inr (.inr (4, 0, 0))), (1, .inl z5), (2, .inl v9)]) dX4_often_37 rfl ((congrArg (fun z => a2 + z) ic_1).trans ev9.symm) (Nat.le_of_ble_eq_true rfl) rfl ?_
        refine am_goto 8 dX4_often_40 rfl ?_
        exact am_drop [0, 1, 2] rfl (ih _ _ _ h KX)
      clear h
      refine am_icmp_le 37 dX4_often_32 rfl (fun b8 => ?_) (fun b8 => ?_)
      · replace h6 := am_ifT b8 h6
        obtain rfl := Option.some.inj h6
        exact am_drop [0, 1, 2] rfl KK7
      · replace h6 := am_ifF b8 h6
        refine am_iload_n dX4_often_35 rfl ?_
        refine am_istore_n (ls' := [(0, .inr (.inr (4, 0, 0))), (1, .inl a2), (2, .inl a2)]) dX4_often_36 (Nat.le_of_ble_eq_true rfl) rfl ?_
        obtain rfl := Option.some.inj h6
        exact am_drop [0, 1, 2] rfl KK7
def f_X4_often (M : am_M)  : Option (Int32 × am_M) :=
  (f_X4_tallyLevel M).bind (fun r2 => (l_X4_often_8 r2 1000 (0 : Int32) (1 : Int32)).bind (fun z11 => some (z11, r2)))
set_option maxHeartbeats 4000000 in
theorem w_X4_often {K : am_K} {d : Nat} {post : Option am_V → am_M → Prop} {M : am_M}  {y : Int32 × am_M} (h : f_X4_often M  = some y) (hp : post (some (.inl y.1)) y.2) : am_W K (d + 6) m_X4_often 0 [(0, .inr (.inr (4, 0, 0)))] [] M post := by
  unfold f_X4_often at h
  refine am_aload_n dX4_often_0 rfl ?_
  obtain ⟨r2, c1, h⟩ := am_bnd h
  refine am_callVv (as := []) dX4_often_1 cv_RX4_221 cb_X4_tallyLevel sh_4 rfl hk_4 rfl rfl (Nat.le_of_ble_eq_true rfl) (c_X4_tallyLevel c1) ?_
  refine am_iconst dX4_often_4 ic_0 ?_
  refine am_istore_n (ls' := [(0, .inr (.inr (4, 0, 0))), (1, .inl (0 : Int32))]) dX4_often_5 (Nat.le_of_ble_eq_true rfl) rfl ?_
  refine am_iconst dX4_often_6 ic_1 ?_
  refine am_istore_n (ls' := [(0, .inr (.inr (4, 0, 0))), (1, .inl (0 : Int32)), (2, .inl (1 : Int32))]) dX4_often_7 (Nat.le_of_ble_eq_true rfl) rfl ?_
  obtain ⟨z11, h12, h⟩ := am_bnd h
  have KK13 : am_W K (d + 6) m_X4_often 43 [(1, .inl z11)] [] r2 post := by
    refine am_iload_n dX4_often_43 rfl ?_
    obtain rfl := Option.some.inj h
    exact am_ireturn dX4_often_44 rfl rfl hp
  exact am_drop [0, 1, 2] rfl (wl_X4_often_8 _ _ _ _ h12 KK13)
theorem c_X4_often {K : am_K} {d : Nat} {M : am_M}  {y : Int32 × am_M} (h : f_X4_often M  = some y) : am_Met K (d + 6) m_X4_often [.inr (.inr (4, 0, 0))] M (fun q N => q = some (.inl y.1) ∧ N = y.2) :=
  am_Met_of cb_X4_often (Nat.le_of_ble_eq_true rfl) (w_X4_often h ⟨rfl, rfl⟩)
def l_X4_half_36 (M : am_M) (a1 : Int32) : Nat → Int32 → Int32 → Option (Int32)
  | 0, _, _ => none
  | n + 1, a2, a3 => (if (24 : Int32) ≤ a2 then some a2 else (if a1 ≤ ((2 : Int32) * a3) then some a2 else am_let (a2 + (1 : Int32)) (fun v6 => if am_inb v6 25 = true then am_let (a3 + (M.1 102 0 0 v6.toNatClampNeg)) (fun v8 => l_X4_half_36 M a1 n v6 v8) else none)))
set_option maxHeartbeats 4000000 in
theorem wl_X4_half_36 {K : am_K} {d : Nat} {post : Option am_V → am_M → Prop} {M : am_M} {a1 : Int32} : ∀ (n : Nat) (a2 : Int32) (a3 : Int32) (x : Int32), l_X4_half_36 M a1 n a2 a3 = some x → am_W K (d + 6) m_X4_half 67 [(2, .inl x)] [] M post → am_W K (d + 6) m_X4_half 36 [(0, .inr (.inr (4, 0, 0))), (1, .inl a1), (2, .inl a2), (3, .inl a3)] [] M post := by
  intro n
  induction n with
  | zero => intro a2 a3 x h KX; cases h
  | succ n ih =>
    intro a2 a3 x h KX
    rw [l_X4_half_36] at h
    refine am_iload_n dX4_half_36 rfl ?_
    refine am_bipush dX4_half_37 bp_24 ?_
    refine am_icmp_ge 67 dX4_half_39 rfl (fun b10 => ?_) (fun b10 => ?_)
    · replace h := am_ifT b10 h
      obtain rfl := Option.some.inj h
      exact am_drop [2] rfl KX
    · replace h := am_ifF b10 h
      refine am_iconst dX4_half_42 ic_2 ?_
      refine am_iload_n dX4_half_43 rfl ?_
      refine am_imul dX4_half_44 ?_
      refine am_iload_n dX4_half_45 rfl ?_
      refine am_icmp_ge 67 dX4_half_46 rfl (fun b9 => ?_) (fun b9 => ?_)
      · replace h := am_ifT b9 h
        obtain rfl := Option.some.inj h
        exact am_drop [2] rfl KX
      · replace h := am_ifF b9 h
        obtain ⟨v6, ev6, h⟩ := am_letE h
        refine am_iinc (ls' := [(0, .inr (.inr (4, 0, 0))), (1, .inl a1), (2, .inl v6), (3, .inl a3)]) dX4_half_49 rfl ((congrArg (fun z => a2 + z) ic_1).trans ev6.symm) (Nat.le_of_ble_eq_true rfl) rfl ?_
        refine am_iload_n dX4_half_52 rfl ?_
        refine am_aload_n dX4_half_53 rfl ?_
        refine am_getR (o' := 0) dX4_half_54 fl_RX4_25 sh_4 rfl rfl hk_4 ?_
        refine am_getR (o' := 0) dX4_half_57 fl_RX4_224 sh_0 rfl rfl hk_0 ?_
        refine am_iload_n dX4_half_60 rfl ?_
        obtain ⟨g7, h⟩ := am_grd h
        refine am_iaload dX4_half_61 sh_102 hk_102 (am_inbE g7) ?_
        refine am_iadd dX4_half_62 ?_
        obtain ⟨v8, ev8, h⟩ := am_letE h
        refine am_topI ev8 ?_
        refine am_istore_n (ls' := [(0, .inr (.inr (4, 0, 0))), (1, .inl a1), (2, .inl v6), (3, .inl v8)]) dX4_half_63 (Nat.le_of_ble_eq_true rfl) rfl ?_
        refine am_goto 36 dX4_half_64 rfl ?_
        exact am_drop [0, 1, 2, 3] rfl (ih _ _ _ h KX)
def f_X4_half (M : am_M)  : Option (Int32 × am_M) :=
  (f_X4_tallySure M).bind (fun r2 => (f_X0_tallyFrom r2 (0 : Int32)).bind (fun r4 => (if r4 = 0 then (f_X4_refuse r2 (-5 : Int32)).bind (fun r15 => some (r15.1, r15.2)) else am_let (r2.1 102 0 0 (0 : Int32).toNatClampNeg) (fun v5 => (l_X4_half_36 r2 r4 1000 (0 : Int32) v5).bind (fun z11 => some (z11, r2))))))
set_option maxHeartbeats 4000000 in
theorem w_X4_half {K : am_K} {d : Nat} {post : Option am_V → am_M → Prop} {M : am_M}  {y : Int32 × am_M} (h : f_X4_half M  = some y) (hp : post (some (.inl y.1)) y.2) : am_W K (d + 6) m_X4_half 0 [(0, .inr (.inr (4, 0, 0)))] [] M post := by
  unfold f_X4_half at h
  refine am_aload_n dX4_half_0 rfl ?_
  obtain ⟨r2, c1, h⟩ := am_bnd h
  refine am_callVv (as := []) dX4_half_1 cv_RX4_237 cb_X4_tallySure sh_4 rfl hk_4 rfl rfl (Nat.le_of_ble_eq_true rfl) (c_X4_tallySure c1) ?_
  refine am_aload_n dX4_half_4 rfl ?_
  refine am_getR (o' := 0) dX4_half_5 fl_RX4_25 sh_4 rfl rfl hk_4 ?_
  refine am_iconst dX4_half_8 ic_0 ?_
  obtain ⟨r4, c3, h⟩ := am_bnd h
  refine am_callVi (as := [.inl (0 : Int32)]) dX4_half_9 cv_RX4_252 cb_X0_tallyFrom sh_0 rfl hk_0 rfl rfl (Nat.le_of_ble_eq_true rfl) (c_X0_tallyFrom c3) ?_
  refine am_istore_n (ls' := [(0, .inr (.inr (4, 0, 0))), (1, .inl r4)]) dX4_half_12 (Nat.le_of_ble_eq_true rfl) rfl ?_
  refine am_iload_n dX4_half_13 rfl ?_
  refine am_if_ne 24 dX4_half_14 rfl (fun b16 => ?_) (fun b16 => ?_)
  · replace h := am_ifF b16 h
    refine am_iconst dX4_half_24 ic_0 ?_
    refine am_istore_n (ls' := [(0, .inr (.inr (4, 0, 0))), (1, .inl r4), (2, .inl (0 : Int32))]) dX4_half_25 (Nat.le_of_ble_eq_true rfl) rfl ?_
    refine am_aload_n dX4_half_26 rfl ?_
    refine am_getR (o' := 0) dX4_half_27 fl_RX4_25 sh_4 rfl rfl hk_4 ?_
    refine am_getR (o' := 0) dX4_half_30 fl_RX4_224 sh_0 rfl rfl hk_0 ?_
    refine am_iconst dX4_half_33 ic_0 ?_
    refine am_iaload dX4_half_34 sh_102 hk_102 (am_inbE (by decide)) ?_
    obtain ⟨v5, ev5, h⟩ := am_letE h
    refine am_topI ev5 ?_
    refine am_istore_n (ls' := [(0, .inr (.inr (4, 0, 0))), (1, .inl r4), (2, .inl (0 : Int32)), (3, .inl v5)]) dX4_half_35 (Nat.le_of_ble_eq_true rfl) rfl ?_
    obtain ⟨z11, h12, h⟩ := am_bnd h
    have KK13 : am_W K (d + 6) m_X4_half 67 [(2, .inl z11)] [] r2 post := by
      refine am_iload_n dX4_half_67 rfl ?_
      obtain rfl := Option.some.inj h
      exact am_ireturn dX4_half_68 rfl rfl hp
    exact am_drop [0, 1, 2, 3] rfl (wl_X4_half_36 _ _ _ _ h12 KK13)
  · replace h := am_ifT b16 h
    refine am_aload_n dX4_half_17 rfl ?_
    refine am_bipush dX4_half_18 bp_m5 ?_
    obtain ⟨r15, c14, h⟩ := am_bnd h
    refine am_callVi (as := [.inl (-5 : Int32)]) dX4_half_20 cv_RX4_58 cb_X4_refuse sh_4 rfl hk_4 rfl rfl (Nat.le_of_ble_eq_true rfl) (c_X4_refuse c14) ?_
    obtain rfl := Option.some.inj h
    exact am_ireturn dX4_half_23 rfl rfl hp
theorem c_X4_half {K : am_K} {d : Nat} {M : am_M}  {y : Int32 × am_M} (h : f_X4_half M  = some y) : am_Met K (d + 6) m_X4_half [.inr (.inr (4, 0, 0))] M (fun q N => q = some (.inl y.1) ∧ N = y.2) :=
  am_Met_of cb_X4_half (Nat.le_of_ble_eq_true rfl) (w_X4_half h ⟨rfl, rfl⟩)
def l_X4_firstWrong_4 (M : am_M) (o1a : Nat) : Nat → Int32 → Int32 → Option (Int32)
  | 0, _, _ => none
  | n + 1, a2, a3 => (if (M.1 2 o1a 0 1) ≤ a3 then some (-1 : Int32) else (f_X2_slipAt M o1a a3).bind (fun r2 => (if r2 = (-1 : Int32) then some a3 else (if a3 < (M.1 0 0 0 0) then am_let (a2 + r2) (fun v3 => (f_X0_isOpen M (0 : Int32) (0 : Int32)).bind (fun r5 => (if r5 = 0 then some a3 else (f_X0_isOpen M (a3 + (1 : Int32)) v3).bind (fun r7 => (if r7 = 0 then some a3 else am_let (a3 + (1 : Int32)) (fun v8 => l_X4_firstWrong_4 M o1a n v3 v8)))))) else some a3))))
set_option maxHeartbeats 4000000 in
theorem wl_X4_firstWrong_4 {K : am_K} {d : Nat} {post : Option am_V → am_M → Prop} {M : am_M} {o1a : Nat} : ∀ (n : Nat) (a2 : Int32) (a3 : Int32) (y : Int32), l_X4_firstWrong_4 M o1a n a2 a3 = some y → post (some (.inl y)) M → am_W K (d + 3) m_X4_firstWrong 4 [(0, .inr (.inr (4, 0, 0))), (1, .inr (.inr (2, o1a, 0))), (2, .inl a2), (3, .inl a3)] [] M post := by
  intro n
  induction n with
  | zero => intro a2 a3 y h hp; cases h
  | succ n ih =>
    intro a2 a3 y h hp
    rw [l_X4_firstWrong_4] at h
    refine am_iload_n dX4_firstWrong_4 rfl ?_
    refine am_aload_n dX4_firstWrong_5 rfl ?_
    refine am_getI dX4_firstWrong_6 fl_RX4_323 sh_2 rfl hk_2 ?_
    refine am_icmp_ge 77 dX4_firstWrong_9 rfl (fun b13 => ?_) (fun b13 => ?_)
    · replace h := am_ifT b13 h
      refine am_iconst dX4_firstWrong_77 ic_m1 ?_
      obtain rfl := Option.some.inj h
      exact am_ireturn dX4_firstWrong_78 rfl rfl hp
    · replace h := am_ifF b13 h
      refine am_aload_n dX4_firstWrong_12 rfl ?_
      refine am_iload_n dX4_firstWrong_13 rfl ?_
      obtain ⟨r2, c1, h⟩ := am_bnd h
      refine am_callVi (as := [.inl a3]) dX4_firstWrong_14 cv_RX4_355 cb_X2_slipAt sh_2 rfl hk_2 rfl rfl (Nat.le_of_ble_eq_true rfl) (c_X2_slipAt c1) ?_
      refine am_istore (ls' := [(0, .inr (.inr (4, 0, 0))), (1, .inr (.inr (2, o1a, 0))), (2, .inl a2), (3, .inl a3), (4, .inl r2)]) dX4_firstWrong_17 (Nat.le_of_ble_eq_true rfl) rfl ?_
      refine am_iload dX4_firstWrong_19 rfl ?_
      refine am_iconst dX4_firstWrong_21 ic_m1 ?_
      refine am_icmp_eq 36 dX4_firstWrong_22 rfl (fun b12 => ?_) (fun b12 => ?_)
      · replace h := am_ifT b12 h
        refine am_iload_n dX4_firstWrong_36 rfl ?_
        obtain rfl := Option.some.inj h
        exact am_ireturn dX4_firstWrong_37 rfl rfl hp
      · replace h := am_ifF b12 h
        refine am_iload_n dX4_firstWrong_25 rfl ?_
        refine am_aload_n dX4_firstWrong_26 rfl ?_
        refine am_getR (o' := 0) dX4_firstWrong_27 fl_RX4_25 sh_4 rfl rfl hk_4 ?_
        refine am_getI dX4_firstWrong_30 fl_RX4_215 sh_0 rfl hk_0 ?_
        refine am_icmp_lt 38 dX4_firstWrong_33 rfl (fun b11 => ?_) (fun b11 => ?_)
        · replace h := am_ifT b11 h
          refine am_iload_n dX4_firstWrong_38 rfl ?_
          refine am_iload dX4_firstWrong_39 rfl ?_
          refine am_iadd dX4_firstWrong_41 ?_
          obtain ⟨v3, ev3, h⟩ := am_letE h
          refine am_topI ev3 ?_
          refine am_istore_n (ls' := [(0, .inr (.inr (4, 0, 0))), (1, .inr (.inr (2, o1a, 0))), (2, .inl v3), (3, .inl a3), (4, .inl r2)]) dX4_firstWrong_42 (Nat.le_of_ble_eq_true rfl) rfl ?_
          refine am_aload_n dX4_firstWrong_43 rfl ?_
          refine am_getR (o' := 0) dX4_firstWrong_44 fl_RX4_25 sh_4 rfl rfl hk_4 ?_
          refine am_iconst dX4_firstWrong_47 ic_0 ?_
          refine am_iconst dX4_firstWrong_48 ic_0 ?_
          obtain ⟨r5, c4, h⟩ := am_bnd h
          refine am_callVi (as := [.inl (0 : Int32), .inl (0 : Int32)]) dX4_firstWrong_49 cv_RX4_358 cb_X0_isOpen sh_0 rfl hk_0 rfl rfl (Nat.le_of_ble_eq_true rfl) (c_X0_isOpen c4) ?_
          refine am_if_eq 69 dX4_firstWrong_52 rfl (fun b10 => ?_) (fun b10 => ?_)
          · replace h := am_ifT b10 h
            refine am_iload_n dX4_firstWrong_69 rfl ?_
            obtain rfl := Option.some.inj h
            exact am_ireturn dX4_firstWrong_70 rfl rfl hp
          · replace h := am_ifF b10 h
            refine am_aload_n dX4_firstWrong_55 rfl ?_
            refine am_getR (o' := 0) dX4_firstWrong_56 fl_RX4_25 sh_4 rfl rfl hk_4 ?_
            refine am_iload_n dX4_firstWrong_59 rfl ?_
            refine am_iconst dX4_firstWrong_60 ic_1 ?_
            refine am_iadd dX4_firstWrong_61 ?_
            refine am_iload_n dX4_firstWrong_62 rfl ?_
            obtain ⟨r7, c6, h⟩ := am_bnd h
            refine am_callVi (as := [.inl (a3 + (1 : Int32)), .inl v3]) dX4_firstWrong_63 cv_RX4_358 cb_X0_isOpen sh_0 rfl hk_0 rfl rfl (Nat.le_of_ble_eq_true rfl) (c_X0_isOpen c6) ?_
            refine am_if_ne 71 dX4_firstWrong_66 rfl (fun b9 => ?_) (fun b9 => ?_)
            · replace h := am_ifF b9 h
              obtain ⟨v8, ev8, h⟩ := am_letE h
              refine am_iinc (ls' := [(0, .inr (.inr (4, 0, 0))), (1, .inr (.inr (2, o1a, 0))), (2, .inl v3), (3, .inl v8), (4, .inl r2)]) dX4_firstWrong_71 rfl ((congrArg (fun z => a3 + z) ic_1).trans ev8.symm) (Nat.le_of_ble_eq_true rfl) rfl ?_
              refine am_goto 4 dX4_firstWrong_74 rfl ?_
              exact am_drop [0, 1, 2, 3] rfl (ih _ _ _ h hp)
            · replace h := am_ifT b9 h
              refine am_iload_n dX4_firstWrong_69 rfl ?_
              obtain rfl := Option.some.inj h
              exact am_ireturn dX4_firstWrong_70 rfl rfl hp
        · replace h := am_ifF b11 h
          refine am_iload_n dX4_firstWrong_36 rfl ?_
          obtain rfl := Option.some.inj h
          exact am_ireturn dX4_firstWrong_37 rfl rfl hp
def f_X4_firstWrong (M : am_M) (o1 : Nat) : Option (Int32) :=
  l_X4_firstWrong_4 M o1 1000 (0 : Int32) (0 : Int32)
set_option maxHeartbeats 4000000 in
theorem w_X4_firstWrong {K : am_K} {d : Nat} {post : Option am_V → am_M → Prop} {M : am_M} {o1 : Nat} {y : Int32} (h : f_X4_firstWrong M o1 = some y) (hp : post (some (.inl y)) M) : am_W K (d + 3) m_X4_firstWrong 0 [(0, .inr (.inr (4, 0, 0))), (1, .inr (.inr (2, o1, 0)))] [] M post := by
  unfold f_X4_firstWrong at h
  refine am_iconst dX4_firstWrong_0 ic_0 ?_
  refine am_istore_n (ls' := [(0, .inr (.inr (4, 0, 0))), (1, .inr (.inr (2, o1, 0))), (2, .inl (0 : Int32))]) dX4_firstWrong_1 (Nat.le_of_ble_eq_true rfl) rfl ?_
  refine am_iconst dX4_firstWrong_2 ic_0 ?_
  refine am_istore_n (ls' := [(0, .inr (.inr (4, 0, 0))), (1, .inr (.inr (2, o1, 0))), (2, .inl (0 : Int32)), (3, .inl (0 : Int32))]) dX4_firstWrong_3 (Nat.le_of_ble_eq_true rfl) rfl ?_
  exact am_drop [0, 1, 2, 3] rfl (wl_X4_firstWrong_4 _ _ _ _ h hp)
theorem c_X4_firstWrong {K : am_K} {d : Nat} {M : am_M} {o1 : Nat} {y : Int32} (h : f_X4_firstWrong M o1 = some y) : am_Met K (d + 3) m_X4_firstWrong [.inr (.inr (4, 0, 0)), .inr (.inr (2, o1, 0))] M (fun q N => q = some (.inl y) ∧ N = M) :=
  am_Met_of cb_X4_firstWrong (Nat.le_of_ble_eq_true rfl) (w_X4_firstWrong h ⟨rfl, rfl⟩)
def f_X4_judge (M : am_M) (x1 : Int32) : Option (Int32 × am_M) :=
  (f_X4_againstRows M x1 x1).bind (fun r2 => (if r2 = 0 then (f_X0_layFitting M 0).bind (fun r4 => if am_inb x1 8 = true then (f_X4_firstWrong r4 x1.toNatClampNeg).bind (fun r7 => some (r7, r4)) else none) else (f_X4_refuse M r2).bind (fun r9 => some (r9.1, r9.2))))
set_option maxHeartbeats 4000000 in
theorem w_X4_judge {K : am_K} {d : Nat} {post : Option am_V → am_M → Prop} {M : am_M} {x1 : Int32} {y : Int32 × am_M} (h : f_X4_judge M x1 = some y) (hp : post (some (.inl y.1)) y.2) : am_W K (d + 5) m_X4_judge 0 [(0, .inr (.inr (4, 0, 0))), (1, .inl x1)] [] M post := by
  unfold f_X4_judge at h
  refine am_aload_n dX4_judge_0 rfl ?_
  refine am_iload_n dX4_judge_1 rfl ?_
  refine am_iload_n dX4_judge_2 rfl ?_
  obtain ⟨r2, c1, h⟩ := am_bnd h
  refine am_callVi (as := [.inl x1, .inl x1]) dX4_judge_3 cv_RX4_66 cb_X4_againstRows sh_4 rfl hk_4 rfl rfl (Nat.le_of_ble_eq_true rfl) (c_X4_againstRows c1) ?_
  refine am_istore_n (ls' := [(0, .inr (.inr (4, 0, 0))), (1, .inl x1), (2, .inl r2)]) dX4_judge_6 (Nat.le_of_ble_eq_true rfl) rfl ?_
  refine am_iload_n dX4_judge_7 rfl ?_
  refine am_if_eq 17 dX4_judge_8 rfl (fun b10 => ?_) (fun b10 => ?_)
  · replace h := am_ifT b10 h
    refine am_aload_n dX4_judge_17 rfl ?_
    refine am_getR (o' := 0) dX4_judge_18 fl_RX4_25 sh_4 rfl rfl hk_4 ?_
    refine am_aload_n dX4_judge_21 rfl ?_
    refine am_getR (o' := 0) dX4_judge_22 fl_RX4_12 sh_4 rfl rfl hk_4 ?_
    obtain ⟨r4, c3, h⟩ := am_bnd h
    refine am_callVv (as := [.inr (.inr (1, 0, 0))]) dX4_judge_25 cv_RX4_209 cb_X0_layFitting sh_0 rfl hk_0 rfl rfl (Nat.le_of_ble_eq_true rfl) (c_X0_layFitting c3) ?_
    refine am_aload_n dX4_judge_28 rfl ?_
    refine am_aload_n dX4_judge_29 rfl ?_
    refine am_getR (o' := 0) dX4_judge_30 fl_RX4_38 sh_4 rfl rfl hk_4 ?_
    refine am_iload_n dX4_judge_33 rfl ?_
    obtain ⟨g5, h⟩ := am_grd h
    refine am_aaload dX4_judge_34 sh_505 rfl rfl hk_505 (am_inbE g5) ?_
    refine am_top (w := .inr (.inr (2, x1.toNatClampNeg, 0))) rfl ?_
    obtain ⟨r7, c6, h⟩ := am_bnd h
    refine am_callVi (as := [.inr (.inr (2, x1.toNatClampNeg, 0))]) dX4_judge_35 cv_RX4_255 cb_X4_firstWrong sh_4 rfl hk_4 rfl rfl (Nat.le_of_ble_eq_true rfl) (c_X4_firstWrong c6) ?_
    obtain rfl := Option.some.inj h
    exact am_ireturn dX4_judge_38 rfl rfl hp
  · replace h := am_ifF b10 h
    refine am_aload_n dX4_judge_11 rfl ?_
    refine am_iload_n dX4_judge_12 rfl ?_
    obtain ⟨r9, c8, h⟩ := am_bnd h
    refine am_callVi (as := [.inl r2]) dX4_judge_13 cv_RX4_58 cb_X4_refuse sh_4 rfl hk_4 rfl rfl (Nat.le_of_ble_eq_true rfl) (c_X4_refuse c8) ?_
    obtain rfl := Option.some.inj h
    exact am_ireturn dX4_judge_16 rfl rfl hp
theorem c_X4_judge {K : am_K} {d : Nat} {M : am_M} {x1 : Int32} {y : Int32 × am_M} (h : f_X4_judge M x1 = some y) : am_Met K (d + 5) m_X4_judge [.inr (.inr (4, 0, 0)), .inl x1] M (fun q N => q = some (.inl y.1) ∧ N = y.2) :=
  am_Met_of cb_X4_judge (Nat.le_of_ble_eq_true rfl) (w_X4_judge h ⟨rfl, rfl⟩)
def f_X4_againstTold (M : am_M) (x1 : Int32) : Option (Int32 × am_M) :=
  (f_X4_againstRows M x1 x1).bind (fun r2 => (if r2 = 0 then (f_X0_layFitting M 0).bind (fun r4 => if am_inb x1 8 = true then (if (r4.1 2 x1.toNatClampNeg 0 1) = (r4.1 1 0 0 1) then if am_inb x1 8 = true then (f_X4_firstWrong r4 x1.toNatClampNeg).bind (fun r8 => (if r8 = (-1 : Int32) then some ((0 : Int32), r4) else some ((-5 : Int32), r4))) else none else some ((-5 : Int32), r4)) else none) else some (r2, M)))
set_option maxHeartbeats 4000000 in
theorem w_X4_againstTold {K : am_K} {d : Nat} {post : Option am_V → am_M → Prop} {M : am_M} {x1 : Int32} {y : Int32 × am_M} (h : f_X4_againstTold M x1 = some y) (hp : post (some (.inl y.1)) y.2) : am_W K (d + 5) m_X4_againstTold 0 [(0, .inr (.inr (4, 0, 0))), (1, .inl x1)] [] M post := by
  unfold f_X4_againstTold at h
  refine am_aload_n dX4_againstTold_0 rfl ?_
  refine am_iload_n dX4_againstTold_1 rfl ?_
  refine am_iload_n dX4_againstTold_2 rfl ?_
  obtain ⟨r2, c1, h⟩ := am_bnd h
  refine am_callVi (as := [.inl x1, .inl x1]) dX4_againstTold_3 cv_RX4_66 cb_X4_againstRows sh_4 rfl hk_4 rfl rfl (Nat.le_of_ble_eq_true rfl) (c_X4_againstRows c1) ?_
  refine am_istore_n (ls' := [(0, .inr (.inr (4, 0, 0))), (1, .inl x1), (2, .inl r2)]) dX4_againstTold_6 (Nat.le_of_ble_eq_true rfl) rfl ?_
  refine am_iload_n dX4_againstTold_7 rfl ?_
  refine am_if_eq 13 dX4_againstTold_8 rfl (fun b11 => ?_) (fun b11 => ?_)
  · replace h := am_ifT b11 h
    refine am_aload_n dX4_againstTold_13 rfl ?_
    refine am_getR (o' := 0) dX4_againstTold_14 fl_RX4_25 sh_4 rfl rfl hk_4 ?_
    refine am_aload_n dX4_againstTold_17 rfl ?_
    refine am_getR (o' := 0) dX4_againstTold_18 fl_RX4_12 sh_4 rfl rfl hk_4 ?_
    obtain ⟨r4, c3, h⟩ := am_bnd h
    refine am_callVv (as := [.inr (.inr (1, 0, 0))]) dX4_againstTold_21 cv_RX4_209 cb_X0_layFitting sh_0 rfl hk_0 rfl rfl (Nat.le_of_ble_eq_true rfl) (c_X0_layFitting c3) ?_
    refine am_aload_n dX4_againstTold_24 rfl ?_
    refine am_getR (o' := 0) dX4_againstTold_25 fl_RX4_38 sh_4 rfl rfl hk_4 ?_
    refine am_iload_n dX4_againstTold_28 rfl ?_
    obtain ⟨g5, h⟩ := am_grd h
    refine am_aaload dX4_againstTold_29 sh_505 rfl rfl hk_505 (am_inbE g5) ?_
    refine am_top (w := .inr (.inr (2, x1.toNatClampNeg, 0))) rfl ?_
    refine am_getI dX4_againstTold_30 fl_RX4_323 sh_2 rfl hk_2 ?_
    refine am_aload_n dX4_againstTold_33 rfl ?_
    refine am_getR (o' := 0) dX4_againstTold_34 fl_RX4_12 sh_4 rfl rfl hk_4 ?_
    refine am_getI dX4_againstTold_37 fl_RX4_282 sh_1 rfl hk_1 ?_
    refine am_icmp_ne 57 dX4_againstTold_40 rfl (fun b10 => ?_) (fun b10 => ?_)
    · replace h := am_ifF b10 h
      refine am_bipush dX4_againstTold_57 bp_m5 ?_
      refine am_goto 63 dX4_againstTold_59 rfl ?_
      obtain rfl := Option.some.inj h
      exact am_ireturn dX4_againstTold_63 rfl rfl hp
    · replace h := am_ifT b10 h
      refine am_aload_n dX4_againstTold_43 rfl ?_
      refine am_aload_n dX4_againstTold_44 rfl ?_
      refine am_getR (o' := 0) dX4_againstTold_45 fl_RX4_38 sh_4 rfl rfl hk_4 ?_
      refine am_iload_n dX4_againstTold_48 rfl ?_
      obtain ⟨g6, h⟩ := am_grd h
      refine am_aaload dX4_againstTold_49 sh_505 rfl rfl hk_505 (am_inbE g6) ?_
      refine am_top (w := .inr (.inr (2, x1.toNatClampNeg, 0))) rfl ?_
      obtain ⟨r8, c7, h⟩ := am_bnd h
      refine am_callVi (as := [.inr (.inr (2, x1.toNatClampNeg, 0))]) dX4_againstTold_50 cv_RX4_255 cb_X4_firstWrong sh_4 rfl hk_4 rfl rfl (Nat.le_of_ble_eq_true rfl) (c_X4_firstWrong c7) ?_
      refine am_iconst dX4_againstTold_53 ic_m1 ?_
      refine am_icmp_eq 62 dX4_againstTold_54 rfl (fun b9 => ?_) (fun b9 => ?_)
      · replace h := am_ifT b9 h
        refine am_iconst dX4_againstTold_62 ic_0 ?_
        obtain rfl := Option.some.inj h
        exact am_ireturn dX4_againstTold_63 rfl rfl hp
      · replace h := am_ifF b9 h
        refine am_bipush dX4_againstTold_57 bp_m5 ?_
        refine am_goto 63 dX4_againstTold_59 rfl ?_
        obtain rfl := Option.some.inj h
        exact am_ireturn dX4_againstTold_63 rfl rfl hp
  · replace h := am_ifF b11 h
    refine am_iload_n dX4_againstTold_11 rfl ?_
    obtain rfl := Option.some.inj h
    exact am_ireturn dX4_againstTold_12 rfl rfl hp
theorem c_X4_againstTold {K : am_K} {d : Nat} {M : am_M} {x1 : Int32} {y : Int32 × am_M} (h : f_X4_againstTold M x1 = some y) : am_Met K (d + 5) m_X4_againstTold [.inr (.inr (4, 0, 0)), .inl x1] M (fun q N => q = some (.inl y.1) ∧ N = y.2) :=
  am_Met_of cb_X4_againstTold (Nat.le_of_ble_eq_true rfl) (w_X4_againstTold h ⟨rfl, rfl⟩)
def l_X4_toldOf_13 (M : am_M) (o0a : Nat) (a1 : Int32) : Nat → Int32 → Int32 → Int32 → Int32 → Int32 → Option (Int32 × Int32 × Int32)
  | 0, _, _, _, _, _ => none
  | n + 1, a2, a3, a4, a5, a6 => (if (M.1 2 o0a 0 1) ≤ a6 then some (a2, a3, a4) else (f_X2_slipAt M o0a a6).bind (fun r2 => ((if r2 = (1 : Int32) then some (1 : Int32) else some (-1 : Int32)) : Option (Int32)).bind (fun z3 => am_let (a5 + z3) (fun v7 => ((if v7 ≤ 0 then some (0 : Int32) else some (1 : Int32)) : Option (Int32)).bind (fun z8 => am_let (a2 + z8) (fun v12 => ((if v7 = 0 then some (1 : Int32) else some (0 : Int32)) : Option (Int32)).bind (fun z13 => am_let (a3 + z13) (fun v17 => am_let (if a4 < v7 then v7 else a4) (fun v18 => am_let (a6 + (1 : Int32)) (fun v19 => l_X4_toldOf_13 M o0a a1 n v12 v17 v18 v7 v19))))))))))
set_option maxHeartbeats 4000000 in
theorem wl_X4_toldOf_13 {K : am_K} {d : Nat} {post : Option am_V → am_M → Prop} {M : am_M} {o0a : Nat} {a1 : Int32} : ∀ (n : Nat) (a2 : Int32) (a3 : Int32) (a4 : Int32) (a5 : Int32) (a6 : Int32) (x : Int32 × Int32 × Int32), l_X4_toldOf_13 M o0a a1 n a2 a3 a4 a5 a6 = some x → am_W K (d + 3) m_X4_toldOf 83 [(1, .inl a1), (2, .inl x.1), (3, .inl x.2.1), (4, .inl x.2.2)] [] M post → am_W K (d + 3) m_X4_toldOf 13 [(0, .inr (.inr (2, o0a, 0))), (1, .inl a1), (2, .inl a2), (3, .inl a3), (4, .inl a4), (5, .inl a5), (6, .inl a6)] [] M post := by
  intro n
  induction n with
  | zero => intro a2 a3 a4 a5 a6 x h KX; cases h
  | succ n ih =>
    intro a2 a3 a4 a5 a6 x h KX
    rw [l_X4_toldOf_13] at h
    refine am_iload dX4_toldOf_13 rfl ?_
    refine am_aload_n dX4_toldOf_15 rfl ?_
    refine am_getI dX4_toldOf_16 fl_RX4_323 sh_2 rfl hk_2 ?_
    refine am_icmp_ge 83 dX4_toldOf_19 rfl (fun b20 => ?_) (fun b20 => ?_)
    · replace h := am_ifT b20 h
      obtain rfl := Option.some.inj h
      exact am_drop [1, 2, 3, 4] rfl KX
    · replace h := am_ifF b20 h
      refine am_iload dX4_toldOf_22 rfl ?_
      refine am_aload_n dX4_toldOf_24 rfl ?_
      refine am_iload dX4_toldOf_25 rfl ?_
      obtain ⟨r2, c1, h⟩ := am_bnd h
      refine am_callVi (as := [.inl a6]) dX4_toldOf_27 cv_RX4_355 cb_X2_slipAt sh_2 rfl hk_2 rfl rfl (Nat.le_of_ble_eq_true rfl) (c_X2_slipAt c1) ?_
      refine am_iconst dX4_toldOf_30 ic_1 ?_
      obtain ⟨z3, h4, h⟩ := am_bnd h
      have KK5 : am_W K (d + 3) m_X4_toldOf 39 [(0, .inr (.inr (2, o0a, 0))), (1, .inl a1), (2, .inl a2), (3, .inl a3), (4, .inl a4), (6, .inl a6)] [.inl z3, .inl a5] M post := by
        refine am_iadd dX4_toldOf_39 ?_
        obtain ⟨v7, ev7, h⟩ := am_letE h
        refine am_topI ev7 ?_
        refine am_istore (ls' := [(0, .inr (.inr (2, o0a, 0))), (1, .inl a1), (2, .inl a2), (3, .inl a3), (4, .inl a4), (5, .inl v7), (6, .inl a6)]) dX4_toldOf_40 (Nat.le_of_ble_eq_true rfl) rfl ?_
        refine am_iload_n dX4_toldOf_42 rfl ?_
        refine am_iload dX4_toldOf_43 rfl ?_
        obtain ⟨z8, h9, h⟩ := am_bnd h
        have KK10 : am_W K (d + 3) m_X4_toldOf 53 [(0, .inr (.inr (2, o0a, 0))), (1, .inl a1), (3, .inl a3), (4, .inl a4), (5, .inl v7), (6, .inl a6)] [.inl z8, .inl a2] M post := by
          refine am_iadd dX4_toldOf_53 ?_
          obtain ⟨v12, ev12, h⟩ := am_letE h
          refine am_topI ev12 ?_
          refine am_istore_n (ls' := [(0, .inr (.inr (2, o0a, 0))), (1, .inl a1), (2, .inl v12), (3, .inl a3), (4, .inl a4), (5, .inl v7), (6, .inl a6)]) dX4_toldOf_54 (Nat.le_of_ble_eq_true rfl) rfl ?_
          refine am_iload_n dX4_toldOf_55 rfl ?_
          refine am_iload dX4_toldOf_56 rfl ?_
          obtain ⟨z13, h14, h⟩ := am_bnd h
          have KK15 : am_W K (d + 3) m_X4_toldOf 66 [(0, .inr (.inr (2, o0a, 0))), (1, .inl a1), (2, .inl v12), (4, .inl a4), (5, .inl v7), (6, .inl a6)] [.inl z13, .inl a3] M post := by
            refine am_iadd dX4_toldOf_66 ?_
            obtain ⟨v17, ev17, h⟩ := am_letE h
            refine am_topI ev17 ?_
            refine am_istore_n (ls' := [(0, .inr (.inr (2, o0a, 0))), (1, .inl a1), (2, .inl v12), (3, .inl v17), (4, .inl a4), (5, .inl v7), (6, .inl a6)]) dX4_toldOf_67 (Nat.le_of_ble_eq_true rfl) rfl ?_
            refine am_iload dX4_toldOf_68 rfl ?_
            refine am_iload dX4_toldOf_70 rfl ?_
            refine am_mmax dX4_toldOf_72 cm_RX4_361 (Nat.le_of_ble_eq_true rfl) ?_
            obtain ⟨v18, ev18, h⟩ := am_letE h
            refine am_topI ev18 ?_
            refine am_istore (ls' := [(0, .inr (.inr (2, o0a, 0))), (1, .inl a1), (2, .inl v12), (3, .inl v17), (4, .inl v18), (5, .inl v7), (6, .inl a6)]) dX4_toldOf_75 (Nat.le_of_ble_eq_true rfl) rfl ?_
            obtain ⟨v19, ev19, h⟩ := am_letE h
            refine am_iinc (ls' := [(0, .inr (.inr (2, o0a, 0))), (1, .inl a1), (2, .inl v12), (3, .inl v17), (4, .inl v18), (5, .inl v7), (6, .inl v19)]) dX4_toldOf_77 rfl ((congrArg (fun z => a6 + z) ic_1).trans ev19.symm) (Nat.le_of_ble_eq_true rfl) rfl ?_
            refine am_goto 13 dX4_toldOf_80 rfl ?_
            exact am_drop [0, 1, 2, 3, 4, 5, 6] rfl (ih _ _ _ _ _ _ h KX)
          clear h
          refine am_if_ne 65 dX4_toldOf_58 rfl (fun b16 => ?_) (fun b16 => ?_)
          · replace h14 := am_ifF b16 h14
            refine am_iconst dX4_toldOf_65 ic_0 ?_
            obtain rfl := Option.some.inj h14
            exact am_drop [0, 1, 2, 4, 5, 6] rfl KK15
          · replace h14 := am_ifT b16 h14
            refine am_iconst dX4_toldOf_61 ic_1 ?_
            refine am_goto 66 dX4_toldOf_62 rfl ?_
            obtain rfl := Option.some.inj h14
            exact am_drop [0, 1, 2, 4, 5, 6] rfl KK15
        clear h
        refine am_if_le 52 dX4_toldOf_45 rfl (fun b11 => ?_) (fun b11 => ?_)
        · replace h9 := am_ifT b11 h9
          refine am_iconst dX4_toldOf_52 ic_0 ?_
          obtain rfl := Option.some.inj h9
          exact am_drop [0, 1, 3, 4, 5, 6] rfl KK10
        · replace h9 := am_ifF b11 h9
          refine am_iconst dX4_toldOf_48 ic_1 ?_
          refine am_goto 53 dX4_toldOf_49 rfl ?_
          obtain rfl := Option.some.inj h9
          exact am_drop [0, 1, 3, 4, 5, 6] rfl KK10
      clear h
      refine am_icmp_ne 38 dX4_toldOf_31 rfl (fun b6 => ?_) (fun b6 => ?_)
      · replace h4 := am_ifF b6 h4
        refine am_iconst dX4_toldOf_38 ic_m1 ?_
        obtain rfl := Option.some.inj h4
        exact am_drop [0, 1, 2, 3, 4, 6] rfl KK5
      · replace h4 := am_ifT b6 h4
        refine am_iconst dX4_toldOf_34 ic_1 ?_
        refine am_goto 39 dX4_toldOf_35 rfl ?_
        obtain rfl := Option.some.inj h4
        exact am_drop [0, 1, 2, 3, 4, 6] rfl KK5
def f_X4_toldOf (M : am_M) (o0 : Nat) (x1 : Int32) : Option (Int32) :=
  (l_X4_toldOf_13 M o0 x1 1000 (0 : Int32) (0 : Int32) (0 : Int32) (0 : Int32) (0 : Int32)).bind (fun z21 => (if x1 = (2 : Int32) then some z21.2.2 else (if x1 = 0 then some z21.1 else some z21.2.1)))
set_option maxHeartbeats 4000000 in
theorem w_X4_toldOf {K : am_K} {d : Nat} {post : Option am_V → am_M → Prop} {M : am_M} {o0 : Nat} {x1 : Int32} {y : Int32} (h : f_X4_toldOf M o0 x1 = some y) (hp : post (some (.inl y)) M) : am_W K (d + 3) m_X4_toldOf 0 [(0, .inr (.inr (2, o0, 0))), (1, .inl x1)] [] M post := by
  unfold f_X4_toldOf at h
  refine am_iconst dX4_toldOf_0 ic_0 ?_
  refine am_istore_n (ls' := [(0, .inr (.inr (2, o0, 0))), (1, .inl x1), (2, .inl (0 : Int32))]) dX4_toldOf_1 (Nat.le_of_ble_eq_true rfl) rfl ?_
  refine am_iconst dX4_toldOf_2 ic_0 ?_
  refine am_istore_n (ls' := [(0, .inr (.inr (2, o0, 0))), (1, .inl x1), (2, .inl (0 : Int32)), (3, .inl (0 : Int32))]) dX4_toldOf_3 (Nat.le_of_ble_eq_true rfl) rfl ?_
  refine am_iconst dX4_toldOf_4 ic_0 ?_
  refine am_istore (ls' := [(0, .inr (.inr (2, o0, 0))), (1, .inl x1), (2, .inl (0 : Int32)), (3, .inl (0 : Int32)), (4, .inl (0 : Int32))]) dX4_toldOf_5 (Nat.le_of_ble_eq_true rfl) rfl ?_
  refine am_iconst dX4_toldOf_7 ic_0 ?_
  refine am_istore (ls' := [(0, .inr (.inr (2, o0, 0))), (1, .inl x1), (2, .inl (0 : Int32)), (3, .inl (0 : Int32)), (4, .inl (0 : Int32)), (5, .inl (0 : Int32))]) dX4_toldOf_8 (Nat.le_of_ble_eq_true rfl) rfl ?_
  refine am_iconst dX4_toldOf_10 ic_0 ?_
  refine am_istore (ls' := [(0, .inr (.inr (2, o0, 0))), (1, .inl x1), (2, .inl (0 : Int32)), (3, .inl (0 : Int32)), (4, .inl (0 : Int32)), (5, .inl (0 : Int32)), (6, .inl (0 : Int32))]) dX4_toldOf_11 (Nat.le_of_ble_eq_true rfl) rfl ?_
  obtain ⟨z21, h22, h⟩ := am_bnd h
  have KK23 : am_W K (d + 3) m_X4_toldOf 83 [(1, .inl x1), (2, .inl z21.1), (3, .inl z21.2.1), (4, .inl z21.2.2)] [] M post := by
    refine am_iload_n dX4_toldOf_83 rfl ?_
    refine am_iconst dX4_toldOf_84 ic_2 ?_
    refine am_icmp_ne 91 dX4_toldOf_85 rfl (fun b25 => ?_) (fun b25 => ?_)
    · replace h := am_ifF b25 h
      refine am_iload_n dX4_toldOf_91 rfl ?_
      refine am_if_ne 99 dX4_toldOf_92 rfl (fun b24 => ?_) (fun b24 => ?_)
      · replace h := am_ifF b24 h
        refine am_iload_n dX4_toldOf_99 rfl ?_
        obtain rfl := Option.some.inj h
        exact am_ireturn dX4_toldOf_100 rfl rfl hp
      · replace h := am_ifT b24 h
        refine am_iload_n dX4_toldOf_95 rfl ?_
        refine am_goto 100 dX4_toldOf_96 rfl ?_
        obtain rfl := Option.some.inj h
        exact am_ireturn dX4_toldOf_100 rfl rfl hp
    · replace h := am_ifT b25 h
      refine am_iload dX4_toldOf_88 rfl ?_
      obtain rfl := Option.some.inj h
      exact am_ireturn dX4_toldOf_90 rfl rfl hp
  exact am_drop [0, 1, 2, 3, 4, 5, 6] rfl (wl_X4_toldOf_13 _ _ _ _ _ _ _ h22 KK23)
theorem c_X4_toldOf {K : am_K} {d : Nat} {M : am_M} {o0 : Nat} {x1 : Int32} {y : Int32} (h : f_X4_toldOf M o0 x1 = some y) : am_Met K (d + 3) m_X4_toldOf [.inr (.inr (2, o0, 0)), .inl x1] M (fun q N => q = some (.inl y) ∧ N = M) :=
  am_Met_of cb_X4_toldOf (Nat.le_of_ble_eq_true rfl) (w_X4_toldOf h ⟨rfl, rfl⟩)
def f_X4_told (M : am_M) (x1 : Int32) (x2 : Int32) : Option (Int32 × am_M) :=
  (f_X4_isWithin M x2 (2 : Int32)).bind (fun r2 => ((if r2 = 0 then some ((-2 : Int32), M) else (f_X4_againstTold M x1).bind (fun r7 => some (r7.1, r7.2))) : Option (Int32 × am_M)).bind (fun z3 => am_let z3.1 (fun v9 => (if v9 = 0 then if am_inb x1 8 = true then (f_X4_toldOf z3.2 x1.toNatClampNeg x2).bind (fun r12 => some (r12, z3.2)) else none else (f_X4_refuse z3.2 v9).bind (fun r14 => some (r14.1, r14.2))))))
set_option maxHeartbeats 4000000 in
theorem w_X4_told {K : am_K} {d : Nat} {post : Option am_V → am_M → Prop} {M : am_M} {x1 : Int32} {x2 : Int32} {y : Int32 × am_M} (h : f_X4_told M x1 x2 = some y) (hp : post (some (.inl y.1)) y.2) : am_W K (d + 6) m_X4_told 0 [(0, .inr (.inr (4, 0, 0))), (1, .inl x1), (2, .inl x2)] [] M post := by
  unfold f_X4_told at h
  refine am_iload_n dX4_told_0 rfl ?_
  refine am_iconst dX4_told_1 ic_2 ?_
  obtain ⟨r2, c1, h⟩ := am_bnd h
  refine am_callSi (as := [.inl x2, .inl (2 : Int32)]) dX4_told_2 cs_RX4_54 cb_X4_isWithin rfl rfl (Nat.le_of_ble_eq_true rfl) (c_X4_isWithin c1) ?_
  obtain ⟨z3, h4, h⟩ := am_bnd h
  have KK5 : am_W K (d + 6) m_X4_told 18 [(0, .inr (.inr (4, 0, 0))), (1, .inl x1), (2, .inl x2)] [.inl z3.1] z3.2 post := by
    obtain ⟨v9, ev9, h⟩ := am_letE h
    refine am_topI ev9 ?_
    refine am_istore_n (ls' := [(0, .inr (.inr (4, 0, 0))), (1, .inl x1), (2, .inl x2), (3, .inl v9)]) dX4_told_18 (Nat.le_of_ble_eq_true rfl) rfl ?_
    refine am_iload_n dX4_told_19 rfl ?_
    refine am_if_eq 31 dX4_told_20 rfl (fun b15 => ?_) (fun b15 => ?_)
    · replace h := am_ifT b15 h
      refine am_aload_n dX4_told_31 rfl ?_
      refine am_getR (o' := 0) dX4_told_32 fl_RX4_38 sh_4 rfl rfl hk_4 ?_
      refine am_iload_n dX4_told_35 rfl ?_
      obtain ⟨g10, h⟩ := am_grd h
      refine am_aaload dX4_told_36 sh_505 rfl rfl hk_505 (am_inbE g10) ?_
      refine am_top (w := .inr (.inr (2, x1.toNatClampNeg, 0))) rfl ?_
      refine am_iload_n dX4_told_37 rfl ?_
      obtain ⟨r12, c11, h⟩ := am_bnd h
      refine am_callSi (as := [.inr (.inr (2, x1.toNatClampNeg, 0)), .inl x2]) dX4_told_38 cs_RX4_262 cb_X4_toldOf rfl rfl (Nat.le_of_ble_eq_true rfl) (c_X4_toldOf c11) ?_
      obtain rfl := Option.some.inj h
      exact am_ireturn dX4_told_41 rfl rfl hp
    · replace h := am_ifF b15 h
      refine am_aload_n dX4_told_23 rfl ?_
      refine am_iload_n dX4_told_24 rfl ?_
      obtain ⟨r14, c13, h⟩ := am_bnd h
      refine am_callVi (as := [.inl v9]) dX4_told_25 cv_RX4_58 cb_X4_refuse sh_4 rfl hk_4 rfl rfl (Nat.le_of_ble_eq_true rfl) (c_X4_refuse c13) ?_
      refine am_goto 41 dX4_told_28 rfl ?_
      obtain rfl := Option.some.inj h
      exact am_ireturn dX4_told_41 rfl rfl hp
  clear h
  refine am_if_eq 16 dX4_told_5 rfl (fun b8 => ?_) (fun b8 => ?_)
  · replace h4 := am_ifT b8 h4
    refine am_bipush dX4_told_16 bp_m2 ?_
    obtain rfl := Option.some.inj h4
    exact am_drop [0, 1, 2] rfl KK5
  · replace h4 := am_ifF b8 h4
    refine am_aload_n dX4_told_8 rfl ?_
    refine am_iload_n dX4_told_9 rfl ?_
    obtain ⟨r7, c6, h4⟩ := am_bnd h4
    refine am_callVi (as := [.inl x1]) dX4_told_10 cv_RX4_259 cb_X4_againstTold sh_4 rfl hk_4 rfl rfl (Nat.le_of_ble_eq_true rfl) (c_X4_againstTold c6) ?_
    refine am_goto 18 dX4_told_13 rfl ?_
    obtain rfl := Option.some.inj h4
    exact am_drop [0, 1, 2] rfl KK5
theorem c_X4_told {K : am_K} {d : Nat} {M : am_M} {x1 : Int32} {x2 : Int32} {y : Int32 × am_M} (h : f_X4_told M x1 x2 = some y) : am_Met K (d + 6) m_X4_told [.inr (.inr (4, 0, 0)), .inl x1, .inl x2] M (fun q N => q = some (.inl y.1) ∧ N = y.2) :=
  am_Met_of cb_X4_told (Nat.le_of_ble_eq_true rfl) (w_X4_told h ⟨rfl, rfl⟩)
def f_X4_luck (M : am_M) (x1 : Int32) : Option (Int32 × am_M) :=
  (f_X4_againstTold M x1).bind (fun r2 => am_let r2.1 (fun v3 => (if v3 = 0 then (f_X0_layFitting r2.2 0).bind (fun r5 => (f_X0_markAhead r5).bind (fun r7 => (f_X0_tallyMarks r7).bind (fun r9 => if am_inb x1 8 = true then (f_X4_toldOf r9 x1.toNatClampNeg (0 : Int32)).bind (fun r12 => (f_X0_tallyFrom r9 r12).bind (fun r14 => some (r14, r9))) else none))) else (f_X4_refuse r2.2 v3).bind (fun r16 => some (r16.1, r16.2)))))
set_option maxHeartbeats 4000000 in
theorem w_X4_luck {K : am_K} {d : Nat} {post : Option am_V → am_M → Prop} {M : am_M} {x1 : Int32} {y : Int32 × am_M} (h : f_X4_luck M x1 = some y) (hp : post (some (.inl y.1)) y.2) : am_W K (d + 6) m_X4_luck 0 [(0, .inr (.inr (4, 0, 0))), (1, .inl x1)] [] M post := by
  unfold f_X4_luck at h
  refine am_aload_n dX4_luck_0 rfl ?_
  refine am_iload_n dX4_luck_1 rfl ?_
  obtain ⟨r2, c1, h⟩ := am_bnd h
  refine am_callVi (as := [.inl x1]) dX4_luck_2 cv_RX4_259 cb_X4_againstTold sh_4 rfl hk_4 rfl rfl (Nat.le_of_ble_eq_true rfl) (c_X4_againstTold c1) ?_
  obtain ⟨v3, ev3, h⟩ := am_letE h
  refine am_topI ev3 ?_
  refine am_istore_n (ls' := [(0, .inr (.inr (4, 0, 0))), (1, .inl x1), (2, .inl v3)]) dX4_luck_5 (Nat.le_of_ble_eq_true rfl) rfl ?_
  refine am_iload_n dX4_luck_6 rfl ?_
  refine am_if_eq 16 dX4_luck_7 rfl (fun b17 => ?_) (fun b17 => ?_)
  · replace h := am_ifT b17 h
    refine am_aload_n dX4_luck_16 rfl ?_
    refine am_getR (o' := 0) dX4_luck_17 fl_RX4_25 sh_4 rfl rfl hk_4 ?_
    refine am_aload_n dX4_luck_20 rfl ?_
    refine am_getR (o' := 0) dX4_luck_21 fl_RX4_12 sh_4 rfl rfl hk_4 ?_
    obtain ⟨r5, c4, h⟩ := am_bnd h
    refine am_callVv (as := [.inr (.inr (1, 0, 0))]) dX4_luck_24 cv_RX4_209 cb_X0_layFitting sh_0 rfl hk_0 rfl rfl (Nat.le_of_ble_eq_true rfl) (c_X0_layFitting c4) ?_
    refine am_aload_n dX4_luck_27 rfl ?_
    refine am_getR (o' := 0) dX4_luck_28 fl_RX4_25 sh_4 rfl rfl hk_4 ?_
    obtain ⟨r7, c6, h⟩ := am_bnd h
    refine am_callVv (as := []) dX4_luck_31 cv_RX4_243 cb_X0_markAhead sh_0 rfl hk_0 rfl rfl (Nat.le_of_ble_eq_true rfl) (c_X0_markAhead c6) ?_
    refine am_aload_n dX4_luck_34 rfl ?_
    refine am_getR (o' := 0) dX4_luck_35 fl_RX4_25 sh_4 rfl rfl hk_4 ?_
    obtain ⟨r9, c8, h⟩ := am_bnd h
    refine am_callVv (as := []) dX4_luck_38 cv_RX4_266 cb_X0_tallyMarks sh_0 rfl hk_0 rfl rfl (Nat.le_of_ble_eq_true rfl) (c_X0_tallyMarks c8) ?_
    refine am_aload_n dX4_luck_41 rfl ?_
    refine am_getR (o' := 0) dX4_luck_42 fl_RX4_25 sh_4 rfl rfl hk_4 ?_
    refine am_aload_n dX4_luck_45 rfl ?_
    refine am_getR (o' := 0) dX4_luck_46 fl_RX4_38 sh_4 rfl rfl hk_4 ?_
    refine am_iload_n dX4_luck_49 rfl ?_
    obtain ⟨g10, h⟩ := am_grd h
    refine am_aaload dX4_luck_50 sh_505 rfl rfl hk_505 (am_inbE g10) ?_
    refine am_top (w := .inr (.inr (2, x1.toNatClampNeg, 0))) rfl ?_
    refine am_iconst dX4_luck_51 ic_0 ?_
    obtain ⟨r12, c11, h⟩ := am_bnd h
    refine am_callSi (as := [.inr (.inr (2, x1.toNatClampNeg, 0)), .inl (0 : Int32)]) dX4_luck_52 cs_RX4_262 cb_X4_toldOf rfl rfl (Nat.le_of_ble_eq_true rfl) (c_X4_toldOf c11) ?_
    obtain ⟨r14, c13, h⟩ := am_bnd h
    refine am_callVi (as := [.inl r12]) dX4_luck_55 cv_RX4_252 cb_X0_tallyFrom sh_0 rfl hk_0 rfl rfl (Nat.le_of_ble_eq_true rfl) (c_X0_tallyFrom c13) ?_
    obtain rfl := Option.some.inj h
    exact am_ireturn dX4_luck_58 rfl rfl hp
  · replace h := am_ifF b17 h
    refine am_aload_n dX4_luck_10 rfl ?_
    refine am_iload_n dX4_luck_11 rfl ?_
    obtain ⟨r16, c15, h⟩ := am_bnd h
    refine am_callVi (as := [.inl v3]) dX4_luck_12 cv_RX4_58 cb_X4_refuse sh_4 rfl hk_4 rfl rfl (Nat.le_of_ble_eq_true rfl) (c_X4_refuse c15) ?_
    obtain rfl := Option.some.inj h
    exact am_ireturn dX4_luck_15 rfl rfl hp
theorem c_X4_luck {K : am_K} {d : Nat} {M : am_M} {x1 : Int32} {y : Int32 × am_M} (h : f_X4_luck M x1 = some y) : am_Met K (d + 6) m_X4_luck [.inr (.inr (4, 0, 0)), .inl x1] M (fun q N => q = some (.inl y.1) ∧ N = y.2) :=
  am_Met_of cb_X4_luck (Nat.le_of_ble_eq_true rfl) (w_X4_luck h ⟨rfl, rfl⟩)
def l_X4_freeHeap_4 (M : am_M) (a0 : Int32) : Nat → Int32 → Int32 → Option (Int32)
  | 0, _, _ => none
  | n + 1, a2, a3 => (if (4 : Int32) ≤ a3 then some (0 : Int32) else (if ((a0 >>> (a3 &&& 31)) &&& (1 : Int32)) = 0 then (if a2 = 0 then some a3 else am_let (a2 + (-1 : Int32)) (fun v2 => am_let (a3 + (1 : Int32)) (fun v3 => l_X4_freeHeap_4 M a0 n v2 v3))) else am_let (a3 + (1 : Int32)) (fun v1 => l_X4_freeHeap_4 M a0 n a2 v1)))
set_option maxHeartbeats 4000000 in
theorem wl_X4_freeHeap_4 {K : am_K} {d : Nat} {post : Option am_V → am_M → Prop} {M : am_M} {a0 : Int32} : ∀ (n : Nat) (a2 : Int32) (a3 : Int32) (y : Int32), l_X4_freeHeap_4 M a0 n a2 a3 = some y → post (some (.inl y)) M → am_W K d m_X4_freeHeap 4 [(0, .inl a0), (2, .inl a2), (3, .inl a3)] [] M post := by
  intro n
  induction n with
  | zero => intro a2 a3 y h hp; cases h
  | succ n ih =>
    intro a2 a3 y h hp
    rw [l_X4_freeHeap_4] at h
    refine am_iload_n dX4_freeHeap_4 rfl ?_
    refine am_iconst dX4_freeHeap_5 ic_4 ?_
    refine am_icmp_ge 32 dX4_freeHeap_6 rfl (fun b6 => ?_) (fun b6 => ?_)
    · replace h := am_ifT b6 h
      refine am_iconst dX4_freeHeap_32 ic_0 ?_
      obtain rfl := Option.some.inj h
      exact am_ireturn dX4_freeHeap_33 rfl rfl hp
    · replace h := am_ifF b6 h
      refine am_iload_n dX4_freeHeap_9 rfl ?_
      refine am_iload_n dX4_freeHeap_10 rfl ?_
      refine am_ishr dX4_freeHeap_11 ?_
      refine am_iconst dX4_freeHeap_12 ic_1 ?_
      refine am_iand dX4_freeHeap_13 ?_
      refine am_if_ne 26 dX4_freeHeap_14 rfl (fun b5 => ?_) (fun b5 => ?_)
      · replace h := am_ifF b5 h
        obtain ⟨v1, ev1, h⟩ := am_letE h
        refine am_iinc (ls' := [(0, .inl a0), (2, .inl a2), (3, .inl v1)]) dX4_freeHeap_26 rfl ((congrArg (fun z => a3 + z) ic_1).trans ev1.symm) (Nat.le_of_ble_eq_true rfl) rfl ?_
        refine am_goto 4 dX4_freeHeap_29 rfl ?_
        exact am_drop [0, 2, 3] rfl (ih _ _ _ h hp)
      · replace h := am_ifT b5 h
        refine am_iload_n dX4_freeHeap_17 rfl ?_
        refine am_if_ne 23 dX4_freeHeap_18 rfl (fun b4 => ?_) (fun b4 => ?_)
        · replace h := am_ifF b4 h
          obtain ⟨v2, ev2, h⟩ := am_letE h
          refine am_iinc (ls' := [(0, .inl a0), (2, .inl v2), (3, .inl a3)]) dX4_freeHeap_23 rfl ((congrArg (fun z => a2 + z) ic_m1).trans ev2.symm) (Nat.le_of_ble_eq_true rfl) rfl ?_
          obtain ⟨v3, ev3, h⟩ := am_letE h
          refine am_iinc (ls' := [(0, .inl a0), (2, .inl v2), (3, .inl v3)]) dX4_freeHeap_26 rfl ((congrArg (fun z => a3 + z) ic_1).trans ev3.symm) (Nat.le_of_ble_eq_true rfl) rfl ?_
          refine am_goto 4 dX4_freeHeap_29 rfl ?_
          exact am_drop [0, 2, 3] rfl (ih _ _ _ h hp)
        · replace h := am_ifT b4 h
          refine am_iload_n dX4_freeHeap_21 rfl ?_
          obtain rfl := Option.some.inj h
          exact am_ireturn dX4_freeHeap_22 rfl rfl hp
def f_X4_freeHeap (M : am_M) (x0 : Int32) (x1 : Int32) : Option (Int32) :=
  l_X4_freeHeap_4 M x0 1000 x1 (0 : Int32)
set_option maxHeartbeats 4000000 in
theorem w_X4_freeHeap {K : am_K} {d : Nat} {post : Option am_V → am_M → Prop} {M : am_M} {x0 : Int32} {x1 : Int32} {y : Int32} (h : f_X4_freeHeap M x0 x1 = some y) (hp : post (some (.inl y)) M) : am_W K d m_X4_freeHeap 0 [(0, .inl x0), (1, .inl x1)] [] M post := by
  unfold f_X4_freeHeap at h
  refine am_iload_n dX4_freeHeap_0 rfl ?_
  refine am_istore_n (ls' := [(0, .inl x0), (1, .inl x1), (2, .inl x1)]) dX4_freeHeap_1 (Nat.le_of_ble_eq_true rfl) rfl ?_
  refine am_iconst dX4_freeHeap_2 ic_0 ?_
  refine am_istore_n (ls' := [(0, .inl x0), (1, .inl x1), (2, .inl x1), (3, .inl (0 : Int32))]) dX4_freeHeap_3 (Nat.le_of_ble_eq_true rfl) rfl ?_
  exact am_drop [0, 2, 3] rfl (wl_X4_freeHeap_4 _ _ _ _ h hp)
theorem c_X4_freeHeap {K : am_K} {d : Nat} {M : am_M} {x0 : Int32} {x1 : Int32} {y : Int32} (h : f_X4_freeHeap M x0 x1 = some y) : am_Met K d m_X4_freeHeap [.inl x0, .inl x1] M (fun q N => q = some (.inl y) ∧ N = M) :=
  am_Met_of cb_X4_freeHeap (Nat.le_of_ble_eq_true rfl) (w_X4_freeHeap h ⟨rfl, rfl⟩)
def l_X4_tryOrder_7  : Nat → Int32 → Int32 → Int32 → am_M → Option (am_M)
  | 0, _, _, _, _ => none
  | n + 1, a2, a3, a4, M => (if (M.1 1 0 0 0) ≤ a4 then some M else if am_inb (((M.1 1 0 0 0) - (1 : Int32)) - a4) 5 = true then am_let (if (1 : Int32) < (am_OR.getD (((M.1 1 0 0 0) - (1 : Int32)) - a4).toNatClampNeg 0) then (am_OR.getD (((M.1 1 0 0 0) - (1 : Int32)) - a4).toNatClampNeg 0) else (1 : Int32)) (fun v2 => if ¬ v2 = 0 then (f_X4_freeHeap M a2 (a3 / v2)).bind (fun r5 => if ¬ v2 = 0 then am_let (a3 - a3 / v2 * v2) (fun v7 => am_let (a2 ||| ((1 : Int32) <<< (r5 &&& 31))) (fun v8 => if am_inb a4 4 = true then am_let (am_si M 506 0 0 a4.toNatClampNeg r5) (fun M10 => am_let (a4 + (1 : Int32)) (fun v11 => l_X4_tryOrder_7  n v8 v7 v11 M10)) else none)) else none) else none) else none)
set_option maxHeartbeats 4000000 in
theorem wl_X4_tryOrder_7 {K : am_K} {d : Nat} {post : Option am_V → am_M → Prop}  : ∀ (n : Nat) (a2 : Int32) (a3 : Int32) (a4 : Int32) (M : am_M) (x : am_M), l_X4_tryOrder_7  n a2 a3 a4 M = some x → am_W K (d + 1) m_X4_tryOrder 78 [] [] x post → am_W K (d + 1) m_X4_tryOrder 7 [(0, .inr (.inr (4, 0, 0))), (2, .inl a2), (3, .inl a3), (4, .inl a4)] [] M post := by
  intro n
  induction n with
  | zero => intro a2 a3 a4 M x h KX; cases h
  | succ n ih =>
    intro a2 a3 a4 M x h KX
    rw [l_X4_tryOrder_7] at h
    refine am_iload dX4_tryOrder_7 rfl ?_
    refine am_aload_n dX4_tryOrder_9 rfl ?_
    refine am_getR (o' := 0) dX4_tryOrder_10 fl_RX4_12 sh_4 rfl rfl hk_4 ?_
    refine am_getI dX4_tryOrder_13 fl_RX4_123 sh_1 rfl hk_1 ?_
    refine am_icmp_ge 78 dX4_tryOrder_16 rfl (fun b12 => ?_) (fun b12 => ?_)
    · replace h := am_ifT b12 h
      obtain rfl := Option.some.inj h
      exact am_drop [] rfl KX
    · replace h := am_ifF b12 h
      refine am_iconst dX4_tryOrder_19 ic_1 ?_
      refine am_gets (q := 9001) (by decide) dX4_tryOrder_20 fs_RX4_273 (fun U hU => hU.2.2.2.2.1) ?_
      refine am_aload_n dX4_tryOrder_23 rfl ?_
      refine am_getR (o' := 0) dX4_tryOrder_24 fl_RX4_12 sh_4 rfl rfl hk_4 ?_
      refine am_getI dX4_tryOrder_27 fl_RX4_123 sh_1 rfl hk_1 ?_
      refine am_iconst dX4_tryOrder_30 ic_1 ?_
      refine am_isub dX4_tryOrder_31 ?_
      refine am_iload dX4_tryOrder_32 rfl ?_
      refine am_isub dX4_tryOrder_34 ?_
      obtain ⟨g1, h⟩ := am_grd h
      refine am_tabI (f := fun j => am_OR.getD j 0) dX4_tryOrder_35 (fun U hU => hU.2.2.2.2.2.1) (am_inbE g1) ?_
      refine am_mmax dX4_tryOrder_36 cm_RX4_361 (Nat.le_of_ble_eq_true rfl) ?_
      obtain ⟨v2, ev2, h⟩ := am_letE h
      refine am_topI ev2 ?_
      refine am_istore (ls' := [(0, .inr (.inr (4, 0, 0))), (2, .inl a2), (3, .inl a3), (4, .inl a4), (5, .inl v2)]) dX4_tryOrder_39 (Nat.le_of_ble_eq_true rfl) rfl ?_
      refine am_iload_n dX4_tryOrder_41 rfl ?_
      refine am_iload_n dX4_tryOrder_42 rfl ?_
      refine am_iload dX4_tryOrder_43 rfl ?_
      obtain ⟨g3, h⟩ := am_grd h
      refine am_idiv dX4_tryOrder_45 g3 ?_
      obtain ⟨r5, c4, h⟩ := am_bnd h
      refine am_callSi (as := [.inl a2, .inl (a3 / v2)]) dX4_tryOrder_46 cs_RX4_364 cb_X4_freeHeap rfl rfl (Nat.le_of_ble_eq_true rfl) (c_X4_freeHeap c4) ?_
      refine am_istore (ls' := [(0, .inr (.inr (4, 0, 0))), (2, .inl a2), (3, .inl a3), (4, .inl a4), (5, .inl v2), (6, .inl r5)]) dX4_tryOrder_49 (Nat.le_of_ble_eq_true rfl) rfl ?_
      refine am_iload_n dX4_tryOrder_51 rfl ?_
      refine am_iload dX4_tryOrder_52 rfl ?_
      obtain ⟨g6, h⟩ := am_grd h
      refine am_irem dX4_tryOrder_54 g6 ?_
      obtain ⟨v7, ev7, h⟩ := am_letE h
      refine am_topI ev7 ?_
      refine am_istore_n (ls' := [(0, .inr (.inr (4, 0, 0))), (2, .inl a2), (3, .inl v7), (4, .inl a4), (5, .inl v2), (6, .inl r5)]) dX4_tryOrder_55 (Nat.le_of_ble_eq_true rfl) rfl ?_
      refine am_iload_n dX4_tryOrder_56 rfl ?_
      refine am_iconst dX4_tryOrder_57 ic_1 ?_
      refine am_iload dX4_tryOrder_58 rfl ?_
      refine am_ishl dX4_tryOrder_60 ?_
      refine am_ior dX4_tryOrder_61 ?_
      obtain ⟨v8, ev8, h⟩ := am_letE h
      refine am_topI ev8 ?_
      refine am_istore_n (ls' := [(0, .inr (.inr (4, 0, 0))), (2, .inl v8), (3, .inl v7), (4, .inl a4), (5, .inl v2), (6, .inl r5)]) dX4_tryOrder_62 (Nat.le_of_ble_eq_true rfl) rfl ?_
      refine am_aload_n dX4_tryOrder_63 rfl ?_
      refine am_getR (o' := 0) dX4_tryOrder_64 fl_RX4_42 sh_4 rfl rfl hk_4 ?_
      refine am_iload dX4_tryOrder_67 rfl ?_
      refine am_iload dX4_tryOrder_69 rfl ?_
      obtain ⟨g9, h⟩ := am_grd h
      obtain ⟨M10, eM10, h⟩ := am_letE h
      refine am_iastore dX4_tryOrder_71 sh_506 hk_506 (am_inbE g9) ?_
      refine am_mem eM10 ?_
      obtain ⟨v11, ev11, h⟩ := am_letE h
      refine am_iinc (ls' := [(0, .inr (.inr (4, 0, 0))), (2, .inl v8), (3, .inl v7), (4, .inl v11), (5, .inl v2), (6, .inl r5)]) dX4_tryOrder_72 rfl ((congrArg (fun z => a4 + z) ic_1).trans ev11.symm) (Nat.le_of_ble_eq_true rfl) rfl ?_
      refine am_goto 7 dX4_tryOrder_75 rfl ?_
      exact am_drop [0, 2, 3, 4] rfl (ih _ _ _ _ _ h KX)
def f_X4_tryOrder (M : am_M) (x1 : Int32) : Option (am_M) :=
  (l_X4_tryOrder_7  1000 (0 : Int32) x1 (0 : Int32) M).bind (fun z13 => some z13)
set_option maxHeartbeats 4000000 in
theorem w_X4_tryOrder {K : am_K} {d : Nat} {post : Option am_V → am_M → Prop} {M : am_M} {x1 : Int32} {y : am_M} (h : f_X4_tryOrder M x1 = some y) (hp : post none y) : am_W K (d + 1) m_X4_tryOrder 0 [(0, .inr (.inr (4, 0, 0))), (1, .inl x1)] [] M post := by
  unfold f_X4_tryOrder at h
  refine am_iconst dX4_tryOrder_0 ic_0 ?_
  refine am_istore_n (ls' := [(0, .inr (.inr (4, 0, 0))), (1, .inl x1), (2, .inl (0 : Int32))]) dX4_tryOrder_1 (Nat.le_of_ble_eq_true rfl) rfl ?_
  refine am_iload_n dX4_tryOrder_2 rfl ?_
  refine am_istore_n (ls' := [(0, .inr (.inr (4, 0, 0))), (1, .inl x1), (2, .inl (0 : Int32)), (3, .inl x1)]) dX4_tryOrder_3 (Nat.le_of_ble_eq_true rfl) rfl ?_
  refine am_iconst dX4_tryOrder_4 ic_0 ?_
  refine am_istore (ls' := [(0, .inr (.inr (4, 0, 0))), (1, .inl x1), (2, .inl (0 : Int32)), (3, .inl x1), (4, .inl (0 : Int32))]) dX4_tryOrder_5 (Nat.le_of_ble_eq_true rfl) rfl ?_
  obtain ⟨z13, h14, h⟩ := am_bnd h
  have KK15 : am_W K (d + 1) m_X4_tryOrder 78 [] [] z13 post := by
    obtain rfl := Option.some.inj h
    exact am_return dX4_tryOrder_78 rfl hp
  exact am_drop [0, 2, 3, 4] rfl (wl_X4_tryOrder_7 _ _ _ _ _ _ h14 KK15)
theorem c_X4_tryOrder {K : am_K} {d : Nat} {M : am_M} {x1 : Int32} {y : am_M} (h : f_X4_tryOrder M x1 = some y) : am_Met K (d + 1) m_X4_tryOrder [.inr (.inr (4, 0, 0)), .inl x1] M (fun q N => q = none ∧ N = y) :=
  am_Met_of cb_X4_tryOrder (Nat.le_of_ble_eq_true rfl) (w_X4_tryOrder h ⟨rfl, rfl⟩)
def f_X4_spentBy (M : am_M) (x1 : Int32) : Option (Int64 × am_M) :=
  (f_X4_tryOrder M x1).bind (fun r2 => (f_X0_layHeaps r2 0 506 0 0 4).bind (fun r4 => (f_X0_markAhead r4).bind (fun r6 => (f_X0_sumMarks r6).bind (fun r8 => some (r8.1, r8.2)))))
set_option maxHeartbeats 4000000 in
theorem w_X4_spentBy {K : am_K} {d : Nat} {post : Option am_V → am_M → Prop} {M : am_M} {x1 : Int32} {y : Int64 × am_M} (h : f_X4_spentBy M x1 = some y) (hp : post (some (.inr (.inl y.1))) y.2) : am_W K (d + 3) m_X4_spentBy 0 [(0, .inr (.inr (4, 0, 0))), (1, .inl x1)] [] M post := by
  unfold f_X4_spentBy at h
  refine am_aload_n dX4_spentBy_0 rfl ?_
  refine am_iload_n dX4_spentBy_1 rfl ?_
  obtain ⟨r2, c1, h⟩ := am_bnd h
  refine am_callVv (as := [.inl x1]) dX4_spentBy_2 cv_RX4_276 cb_X4_tryOrder sh_4 rfl hk_4 rfl rfl (Nat.le_of_ble_eq_true rfl) (c_X4_tryOrder c1) ?_
  refine am_aload_n dX4_spentBy_5 rfl ?_
  refine am_getR (o' := 0) dX4_spentBy_6 fl_RX4_25 sh_4 rfl rfl hk_4 ?_
  refine am_aload_n dX4_spentBy_9 rfl ?_
  refine am_getR (o' := 0) dX4_spentBy_10 fl_RX4_12 sh_4 rfl rfl hk_4 ?_
  refine am_aload_n dX4_spentBy_13 rfl ?_
  refine am_getR (o' := 0) dX4_spentBy_14 fl_RX4_42 sh_4 rfl rfl hk_4 ?_
  obtain ⟨r4, c3, h⟩ := am_bnd h
  refine am_callVv (as := [.inr (.inr (1, 0, 0)), .inr (.inr (506, 0, 0))]) dX4_spentBy_17 cv_RX4_196 cb_X0_layHeaps sh_0 rfl hk_0 rfl rfl (Nat.le_of_ble_eq_true rfl) (c_X0_layHeaps sh_506 hk_506 c3) ?_
  refine am_aload_n dX4_spentBy_20 rfl ?_
  refine am_getR (o' := 0) dX4_spentBy_21 fl_RX4_25 sh_4 rfl rfl hk_4 ?_
  obtain ⟨r6, c5, h⟩ := am_bnd h
  refine am_callVv (as := []) dX4_spentBy_24 cv_RX4_243 cb_X0_markAhead sh_0 rfl hk_0 rfl rfl (Nat.le_of_ble_eq_true rfl) (c_X0_markAhead c5) ?_
  refine am_aload_n dX4_spentBy_27 rfl ?_
  refine am_getR (o' := 0) dX4_spentBy_28 fl_RX4_25 sh_4 rfl rfl hk_4 ?_
  obtain ⟨r8, c7, h⟩ := am_bnd h
  refine am_callVl (as := []) dX4_spentBy_31 cv_RX4_246 cb_X0_sumMarks sh_0 rfl hk_0 rfl rfl (Nat.le_of_ble_eq_true rfl) (c_X0_sumMarks c7) ?_
  obtain rfl := Option.some.inj h
  exact am_lreturn dX4_spentBy_34 rfl hp
theorem c_X4_spentBy {K : am_K} {d : Nat} {M : am_M} {x1 : Int32} {y : Int64 × am_M} (h : f_X4_spentBy M x1 = some y) : am_Met K (d + 3) m_X4_spentBy [.inr (.inr (4, 0, 0)), .inl x1] M (fun q N => q = some (.inr (.inl y.1)) ∧ N = y.2) :=
  am_Met_of cb_X4_spentBy (Nat.le_of_ble_eq_true rfl) (w_X4_spentBy h ⟨rfl, rfl⟩)
def l_X4_order_35 (a1 : Int32) (a2 : Int32) : Nat → Int32 → Int64 → Int32 → am_M → Option (Int32 × am_M)
  | 0, _, _, _, _ => none
  | n + 1, a3, a4, a6, M => if am_inb (M.1 1 0 0 0) 5 = true then (if (am_OR.getD (M.1 1 0 0 0).toNatClampNeg 0) ≤ a6 then some (a3, M) else (f_X4_spentBy M a6).bind (fun r8 => am_let r8.1 (fun v9 => ((if a1 = 0 then (if 0 ≤ (lg_cmp v9 a4) then some (a3, a4) else some (a6, v9)) else (if (lg_cmp v9 a4) ≤ 0 then some (a3, a4) else some (a6, v9))) : Option (Int32 × Int64)).bind (fun z10 => am_let (a6 + (1 : Int32)) (fun v16 => l_X4_order_35 a1 a2 n z10.1 z10.2 v16 r8.2))))) else none
set_option maxHeartbeats 4000000 in
theorem wl_X4_order_35 {K : am_K} {d : Nat} {post : Option am_V → am_M → Prop} {a1 : Int32} {a2 : Int32} : ∀ (n : Nat) (a3 : Int32) (a4 : Int64) (a6 : Int32) (M : am_M) (x : Int32 × am_M), l_X4_order_35 a1 a2 n a3 a4 a6 M = some x → am_W K (d + 4) m_X4_order 95 [(0, .inr (.inr (4, 0, 0))), (2, .inl a2), (3, .inl x.1)] [] x.2 post → am_W K (d + 4) m_X4_order 35 [(0, .inr (.inr (4, 0, 0))), (1, .inl a1), (2, .inl a2), (3, .inl a3), (4, .inr (.inl a4)), (6, .inl a6)] [] M post := by
  intro n
  induction n with
  | zero => intro a3 a4 a6 M x h KX; cases h
  | succ n ih =>
    intro a3 a4 a6 M x h KX
    rw [l_X4_order_35] at h
    refine am_iload dX4_order_35 rfl ?_
    refine am_gets (q := 9001) (by decide) dX4_order_37 fs_RX4_273 (fun U hU => hU.2.2.2.2.1) ?_
    refine am_aload_n dX4_order_40 rfl ?_
    refine am_getR (o' := 0) dX4_order_41 fl_RX4_12 sh_4 rfl rfl hk_4 ?_
    refine am_getI dX4_order_44 fl_RX4_123 sh_1 rfl hk_1 ?_
    obtain ⟨g6, h⟩ := am_grd h
    refine am_tabI (f := fun j => am_OR.getD j 0) dX4_order_47 (fun U hU => hU.2.2.2.2.2.1) (am_inbE g6) ?_
    refine am_icmp_ge 95 dX4_order_48 rfl (fun b17 => ?_) (fun b17 => ?_)
    · replace h := am_ifT b17 h
      obtain rfl := Option.some.inj h
      exact am_drop [0, 2, 3] rfl KX
    · replace h := am_ifF b17 h
      refine am_aload_n dX4_order_51 rfl ?_
      refine am_iload dX4_order_52 rfl ?_
      obtain ⟨r8, c7, h⟩ := am_bnd h
      refine am_callVl (as := [.inl a6]) dX4_order_54 cv_RX4_269 cb_X4_spentBy sh_4 rfl hk_4 rfl rfl (Nat.le_of_ble_eq_true rfl) (c_X4_spentBy c7) ?_
      obtain ⟨v9, ev9, h⟩ := am_letE h
      refine am_topL ev9 ?_
      refine am_lstore (ls' := [(0, .inr (.inr (4, 0, 0))), (1, .inl a1), (2, .inl a2), (3, .inl a3), (4, .inr (.inl a4)), (6, .inl a6), (7, .inr (.inl v9))]) dX4_order_57 (Nat.le_of_ble_eq_true rfl) rfl ?_
      refine am_iload_n dX4_order_59 rfl ?_
      obtain ⟨z10, h11, h⟩ := am_bnd h
      have KK12 : am_W K (d + 4) m_X4_order 89 [(0, .inr (.inr (4, 0, 0))), (1, .inl a1), (2, .inl a2), (3, .inl z10.1), (4, .inr (.inl z10.2)), (6, .inl a6)] [] r8.2 post := by
        obtain ⟨v16, ev16, h⟩ := am_letE h
        refine am_iinc (ls' := [(0, .inr (.inr (4, 0, 0))), (1, .inl a1), (2, .inl a2), (3, .inl z10.1), (4, .inr (.inl z10.2)), (6, .inl v16)]) dX4_order_89 rfl ((congrArg (fun z => a6 + z) ic_1).trans ev16.symm) (Nat.le_of_ble_eq_true rfl) rfl ?_
        refine am_goto 35 dX4_order_92 rfl ?_
        exact am_drop [0, 1, 2, 3, 4, 6] rfl (ih _ _ _ _ _ h KX)
      clear h
      refine am_if_eq 74 dX4_order_60 rfl (fun b15 => ?_) (fun b15 => ?_)
      · replace h11 := am_ifT b15 h11
        refine am_lload dX4_order_74 rfl ?_
        refine am_lload dX4_order_76 rfl ?_
        refine am_lcmp dX4_order_78 ?_
        refine am_if_ge 89 dX4_order_79 rfl (fun b13 => ?_) (fun b13 => ?_)
        · replace h11 := am_ifT b13 h11
          obtain rfl := Option.some.inj h11
          exact am_drop [0, 1, 2, 3, 4, 6] rfl KK12
        · replace h11 := am_ifF b13 h11
          refine am_iload dX4_order_82 rfl ?_
          refine am_istore_n (ls' := [(0, .inr (.inr (4, 0, 0))), (1, .inl a1), (2, .inl a2), (3, .inl a6), (4, .inr (.inl a4)), (6, .inl a6), (7, .inr (.inl v9))]) dX4_order_84 (Nat.le_of_ble_eq_true rfl) rfl ?_
          refine am_lload dX4_order_85 rfl ?_
          refine am_lstore (ls' := [(0, .inr (.inr (4, 0, 0))), (1, .inl a1), (2, .inl a2), (3, .inl a6), (4, .inr (.inl v9)), (6, .inl a6), (7, .inr (.inl v9))]) dX4_order_87 (Nat.le_of_ble_eq_true rfl) rfl ?_
          obtain rfl := Option.some.inj h11
          exact am_drop [0, 1, 2, 3, 4, 6] rfl KK12
      · replace h11 := am_ifF b15 h11
        refine am_lload dX4_order_63 rfl ?_
        refine am_lload dX4_order_65 rfl ?_
        refine am_lcmp dX4_order_67 ?_
        refine am_if_le 89 dX4_order_68 rfl (fun b14 => ?_) (fun b14 => ?_)
        · replace h11 := am_ifT b14 h11
          obtain rfl := Option.some.inj h11
          exact am_drop [0, 1, 2, 3, 4, 6] rfl KK12
        · replace h11 := am_ifF b14 h11
          refine am_goto 82 dX4_order_71 rfl ?_
          refine am_iload dX4_order_82 rfl ?_
          refine am_istore_n (ls' := [(0, .inr (.inr (4, 0, 0))), (1, .inl a1), (2, .inl a2), (3, .inl a6), (4, .inr (.inl a4)), (6, .inl a6), (7, .inr (.inl v9))]) dX4_order_84 (Nat.le_of_ble_eq_true rfl) rfl ?_
          refine am_lload dX4_order_85 rfl ?_
          refine am_lstore (ls' := [(0, .inr (.inr (4, 0, 0))), (1, .inl a1), (2, .inl a2), (3, .inl a6), (4, .inr (.inl v9)), (6, .inl a6), (7, .inr (.inl v9))]) dX4_order_87 (Nat.le_of_ble_eq_true rfl) rfl ?_
          obtain rfl := Option.some.inj h11
          exact am_drop [0, 1, 2, 3, 4, 6] rfl KK12
def f_X4_order (M : am_M) (x1 : Int32) (x2 : Int32) : Option (Int32 × am_M) :=
  (f_X4_isWithin M x2 ((M.1 1 0 0 0) - (1 : Int32))).bind (fun r2 => (if r2 = 0 then (f_X4_refuse M (-2 : Int32)).bind (fun r25 => some (r25.1, r25.2)) else (f_X4_spentBy M (0 : Int32)).bind (fun r4 => am_let r4.1 (fun v5 => (l_X4_order_35 x1 x2 1000 (0 : Int32) v5 (1 : Int32) r4.2).bind (fun z18 => (f_X4_tryOrder z18.2 z18.1).bind (fun r22 => if am_inb x2 4 = true then some ((r22.1 506 0 0 x2.toNatClampNeg), r22) else none))))))
set_option maxHeartbeats 4000000 in
theorem w_X4_order {K : am_K} {d : Nat} {post : Option am_V → am_M → Prop} {M : am_M} {x1 : Int32} {x2 : Int32} {y : Int32 × am_M} (h : f_X4_order M x1 x2 = some y) (hp : post (some (.inl y.1)) y.2) : am_W K (d + 4) m_X4_order 0 [(0, .inr (.inr (4, 0, 0))), (1, .inl x1), (2, .inl x2)] [] M post := by
  unfold f_X4_order at h
  refine am_iload_n dX4_order_0 rfl ?_
  refine am_aload_n dX4_order_1 rfl ?_
  refine am_getR (o' := 0) dX4_order_2 fl_RX4_12 sh_4 rfl rfl hk_4 ?_
  refine am_getI dX4_order_5 fl_RX4_123 sh_1 rfl hk_1 ?_
  refine am_iconst dX4_order_8 ic_1 ?_
  refine am_isub dX4_order_9 ?_
  obtain ⟨r2, c1, h⟩ := am_bnd h
  refine am_callSi (as := [.inl x2, .inl ((M.1 1 0 0 0) - (1 : Int32))]) dX4_order_10 cs_RX4_54 cb_X4_isWithin rfl rfl (Nat.le_of_ble_eq_true rfl) (c_X4_isWithin c1) ?_
  refine am_if_ne 23 dX4_order_13 rfl (fun b26 => ?_) (fun b26 => ?_)
  · replace h := am_ifF b26 h
    refine am_iconst dX4_order_23 ic_0 ?_
    refine am_istore_n (ls' := [(0, .inr (.inr (4, 0, 0))), (1, .inl x1), (2, .inl x2), (3, .inl (0 : Int32))]) dX4_order_24 (Nat.le_of_ble_eq_true rfl) rfl ?_
    refine am_aload_n dX4_order_25 rfl ?_
    refine am_iconst dX4_order_26 ic_0 ?_
    obtain ⟨r4, c3, h⟩ := am_bnd h
    refine am_callVl (as := [.inl (0 : Int32)]) dX4_order_27 cv_RX4_269 cb_X4_spentBy sh_4 rfl hk_4 rfl rfl (Nat.le_of_ble_eq_true rfl) (c_X4_spentBy c3) ?_
    obtain ⟨v5, ev5, h⟩ := am_letE h
    refine am_topL ev5 ?_
    refine am_lstore (ls' := [(0, .inr (.inr (4, 0, 0))), (1, .inl x1), (2, .inl x2), (3, .inl (0 : Int32)), (4, .inr (.inl v5))]) dX4_order_30 (Nat.le_of_ble_eq_true rfl) rfl ?_
    refine am_iconst dX4_order_32 ic_1 ?_
    refine am_istore (ls' := [(0, .inr (.inr (4, 0, 0))), (1, .inl x1), (2, .inl x2), (3, .inl (0 : Int32)), (4, .inr (.inl v5)), (6, .inl (1 : Int32))]) dX4_order_33 (Nat.le_of_ble_eq_true rfl) rfl ?_
    obtain ⟨z18, h19, h⟩ := am_bnd h
    have KK20 : am_W K (d + 4) m_X4_order 95 [(0, .inr (.inr (4, 0, 0))), (2, .inl x2), (3, .inl z18.1)] [] z18.2 post := by
      refine am_aload_n dX4_order_95 rfl ?_
      refine am_iload_n dX4_order_96 rfl ?_
      obtain ⟨r22, c21, h⟩ := am_bnd h
      refine am_callVv (as := [.inl z18.1]) dX4_order_97 cv_RX4_276 cb_X4_tryOrder sh_4 rfl hk_4 rfl rfl (Nat.le_of_ble_eq_true rfl) (c_X4_tryOrder c21) ?_
      refine am_aload_n dX4_order_100 rfl ?_
      refine am_getR (o' := 0) dX4_order_101 fl_RX4_42 sh_4 rfl rfl hk_4 ?_
      refine am_iload_n dX4_order_104 rfl ?_
      obtain ⟨g23, h⟩ := am_grd h
      refine am_iaload dX4_order_105 sh_506 hk_506 (am_inbE g23) ?_
      obtain rfl := Option.some.inj h
      exact am_ireturn dX4_order_106 rfl rfl hp
    exact am_drop [0, 1, 2, 3, 4, 6] rfl (wl_X4_order_35 _ _ _ _ _ _ h19 KK20)
  · replace h := am_ifT b26 h
    refine am_aload_n dX4_order_16 rfl ?_
    refine am_bipush dX4_order_17 bp_m2 ?_
    obtain ⟨r25, c24, h⟩ := am_bnd h
    refine am_callVi (as := [.inl (-2 : Int32)]) dX4_order_19 cv_RX4_58 cb_X4_refuse sh_4 rfl hk_4 rfl rfl (Nat.le_of_ble_eq_true rfl) (c_X4_refuse c24) ?_
    obtain rfl := Option.some.inj h
    exact am_ireturn dX4_order_22 rfl rfl hp
theorem c_X4_order {K : am_K} {d : Nat} {M : am_M} {x1 : Int32} {x2 : Int32} {y : Int32 × am_M} (h : f_X4_order M x1 x2 = some y) : am_Met K (d + 4) m_X4_order [.inr (.inr (4, 0, 0)), .inl x1, .inl x2] M (fun q N => q = some (.inl y.1) ∧ N = y.2) :=
  am_Met_of cb_X4_order (Nat.le_of_ble_eq_true rfl) (w_X4_order h ⟨rfl, rfl⟩)
def l_X4_choose_16 (M : am_M) (a0 : Int32) (a1 : Int32) : Nat → Int64 → Int32 → Option (Int64)
  | 0, _, _ => none
  | n + 1, a2, a4 => (if a1 < a4 then some a2 else if ¬ a4.toInt64 = 0 then am_let ((a2 * (((a0 - a1) + a4).toInt64)) / a4.toInt64) (fun v2 => am_let (a4 + (1 : Int32)) (fun v3 => l_X4_choose_16 M a0 a1 n v2 v3)) else none)
set_option maxHeartbeats 4000000 in
theorem wl_X4_choose_16 {K : am_K} {d : Nat} {post : Option am_V → am_M → Prop} {M : am_M} {a0 : Int32} {a1 : Int32} : ∀ (n : Nat) (a2 : Int64) (a4 : Int32) (x : Int64), l_X4_choose_16 M a0 a1 n a2 a4 = some x → am_W K d m_X4_choose 42 [(2, .inr (.inl x))] [] M post → am_W K d m_X4_choose 16 [(0, .inl a0), (1, .inl a1), (2, .inr (.inl a2)), (4, .inl a4)] [] M post := by
  intro n
  induction n with
  | zero => intro a2 a4 x h KX; cases h
  | succ n ih =>
    intro a2 a4 x h KX
    rw [l_X4_choose_16] at h
    refine am_iload dX4_choose_16 rfl ?_
    refine am_iload_n dX4_choose_18 rfl ?_
    refine am_icmp_gt 42 dX4_choose_19 rfl (fun b4 => ?_) (fun b4 => ?_)
    · replace h := am_ifT b4 h
      obtain rfl := Option.some.inj h
      exact am_drop [2] rfl KX
    · replace h := am_ifF b4 h
      refine am_lload_n dX4_choose_22 rfl ?_
      refine am_iload_n dX4_choose_23 rfl ?_
      refine am_iload_n dX4_choose_24 rfl ?_
      refine am_isub dX4_choose_25 ?_
      refine am_iload dX4_choose_26 rfl ?_
      refine am_iadd dX4_choose_28 ?_
      refine am_i2l dX4_choose_29 ?_
      refine am_lmul dX4_choose_30 ?_
      refine am_iload dX4_choose_31 rfl ?_
      refine am_i2l dX4_choose_33 ?_
      obtain ⟨g1, h⟩ := am_grd h
      refine am_ldiv dX4_choose_34 g1 ?_
      obtain ⟨v2, ev2, h⟩ := am_letE h
      refine am_topL ev2 ?_
      refine am_lstore_n (ls' := [(0, .inl a0), (1, .inl a1), (2, .inr (.inl v2)), (4, .inl a4)]) dX4_choose_35 (Nat.le_of_ble_eq_true rfl) rfl ?_
      obtain ⟨v3, ev3, h⟩ := am_letE h
      refine am_iinc (ls' := [(0, .inl a0), (1, .inl a1), (2, .inr (.inl v2)), (4, .inl v3)]) dX4_choose_36 rfl ((congrArg (fun z => a4 + z) ic_1).trans ev3.symm) (Nat.le_of_ble_eq_true rfl) rfl ?_
      refine am_goto 16 dX4_choose_39 rfl ?_
      exact am_drop [0, 1, 2, 4] rfl (ih _ _ _ h KX)
def f_X4_choose (M : am_M) (x0 : Int32) (x1 : Int32) : Option (Int64) :=
  (if x1 < 0 then some (0 : Int64) else (if x1 ≤ x0 then (l_X4_choose_16 M x0 x1 1000 (1 : Int64) (1 : Int32)).bind (fun z5 => some z5) else some (0 : Int64)))
set_option maxHeartbeats 4000000 in
theorem w_X4_choose {K : am_K} {d : Nat} {post : Option am_V → am_M → Prop} {M : am_M} {x0 : Int32} {x1 : Int32} {y : Int64} (h : f_X4_choose M x0 x1 = some y) (hp : post (some (.inr (.inl y))) M) : am_W K d m_X4_choose 0 [(0, .inl x0), (1, .inl x1)] [] M post := by
  unfold f_X4_choose at h
  refine am_iload_n dX4_choose_0 rfl ?_
  refine am_if_lt 9 dX4_choose_1 rfl (fun b9 => ?_) (fun b9 => ?_)
  · replace h := am_ifT b9 h
    refine am_lconst dX4_choose_9 lc_0 ?_
    obtain rfl := Option.some.inj h
    exact am_lreturn dX4_choose_10 rfl hp
  · replace h := am_ifF b9 h
    refine am_iload_n dX4_choose_4 rfl ?_
    refine am_iload_n dX4_choose_5 rfl ?_
    refine am_icmp_le 11 dX4_choose_6 rfl (fun b8 => ?_) (fun b8 => ?_)
    · replace h := am_ifT b8 h
      refine am_lconst dX4_choose_11 lc_1 ?_
      refine am_lstore_n (ls' := [(0, .inl x0), (1, .inl x1), (2, .inr (.inl (1 : Int64)))]) dX4_choose_12 (Nat.le_of_ble_eq_true rfl) rfl ?_
      refine am_iconst dX4_choose_13 ic_1 ?_
      refine am_istore (ls' := [(0, .inl x0), (1, .inl x1), (2, .inr (.inl (1 : Int64))), (4, .inl (1 : Int32))]) dX4_choose_14 (Nat.le_of_ble_eq_true rfl) rfl ?_
      obtain ⟨z5, h6, h⟩ := am_bnd h
      have KK7 : am_W K d m_X4_choose 42 [(2, .inr (.inl z5))] [] M post := by
        refine am_lload_n dX4_choose_42 rfl ?_
        obtain rfl := Option.some.inj h
        exact am_lreturn dX4_choose_43 rfl hp
      exact am_drop [0, 1, 2, 4] rfl (wl_X4_choose_16 _ _ _ _ h6 KK7)
    · replace h := am_ifF b8 h
      refine am_lconst dX4_choose_9 lc_0 ?_
      obtain rfl := Option.some.inj h
      exact am_lreturn dX4_choose_10 rfl hp
theorem c_X4_choose {K : am_K} {d : Nat} {M : am_M} {x0 : Int32} {x1 : Int32} {y : Int64} (h : f_X4_choose M x0 x1 = some y) : am_Met K d m_X4_choose [.inl x0, .inl x1] M (fun q N => q = some (.inr (.inl y)) ∧ N = M) :=
  am_Met_of cb_X4_choose (Nat.le_of_ble_eq_true rfl) (w_X4_choose h ⟨rfl, rfl⟩)
def l_X4_lost_42 (M : am_M) (a1 : Int32) (a2 : Int32) : Nat → Int64 → Int32 → Option (Int64)
  | 0, _, _ => none
  | n + 1, a3, a5 => (if a1 < a5 then some a3 else am_let ((a2 + ((2 : Int32) * a5)) - a1) (fun v4 => ((if a2 = 0 then (if v4 ≤ 0 then some a3 else (f_X4_choose M a1 a5).bind (fun r13 => am_let (a3 + r13) (fun v14 => some v14))) else (if 0 < v4 then some a3 else (f_X4_choose M a1 a5).bind (fun r9 => am_let (a3 + r9) (fun v10 => some v10)))) : Option (Int64)).bind (fun z5 => am_let (a5 + (1 : Int32)) (fun v17 => l_X4_lost_42 M a1 a2 n z5 v17))))
set_option maxHeartbeats 4000000 in
theorem wl_X4_lost_42 {K : am_K} {d : Nat} {post : Option am_V → am_M → Prop} {M : am_M} {a1 : Int32} {a2 : Int32} : ∀ (n : Nat) (a3 : Int64) (a5 : Int32) (x : Int64), l_X4_lost_42 M a1 a2 n a3 a5 = some x → am_W K (d + 2) m_X4_lost 90 [(3, .inr (.inl x))] [] M post → am_W K (d + 2) m_X4_lost 42 [(1, .inl a1), (2, .inl a2), (3, .inr (.inl a3)), (5, .inl a5)] [] M post := by
  intro n
  induction n with
  | zero => intro a3 a5 x h KX; cases h
  | succ n ih =>
    intro a3 a5 x h KX
    rw [l_X4_lost_42] at h
    refine am_iload dX4_lost_42 rfl ?_
    refine am_iload_n dX4_lost_44 rfl ?_
    refine am_icmp_gt 90 dX4_lost_45 rfl (fun b18 => ?_) (fun b18 => ?_)
    · replace h := am_ifT b18 h
      obtain rfl := Option.some.inj h
      exact am_drop [3] rfl KX
    · replace h := am_ifF b18 h
      refine am_iload_n dX4_lost_48 rfl ?_
      refine am_iconst dX4_lost_49 ic_2 ?_
      refine am_iload dX4_lost_50 rfl ?_
      refine am_imul dX4_lost_52 ?_
      refine am_iadd dX4_lost_53 ?_
      refine am_iload_n dX4_lost_54 rfl ?_
      refine am_isub dX4_lost_55 ?_
      obtain ⟨v4, ev4, h⟩ := am_letE h
      refine am_topI ev4 ?_
      refine am_istore (ls' := [(1, .inl a1), (2, .inl a2), (3, .inr (.inl a3)), (5, .inl a5), (6, .inl v4)]) dX4_lost_56 (Nat.le_of_ble_eq_true rfl) rfl ?_
      refine am_iload_n dX4_lost_58 rfl ?_
      obtain ⟨z5, h6, h⟩ := am_bnd h
      have KK7 : am_W K (d + 2) m_X4_lost 84 [(1, .inl a1), (2, .inl a2), (3, .inr (.inl z5)), (5, .inl a5)] [] M post := by
        obtain ⟨v17, ev17, h⟩ := am_letE h
        refine am_iinc (ls' := [(1, .inl a1), (2, .inl a2), (3, .inr (.inl z5)), (5, .inl v17)]) dX4_lost_84 rfl ((congrArg (fun z => a5 + z) ic_1).trans ev17.symm) (Nat.le_of_ble_eq_true rfl) rfl ?_
        refine am_goto 42 dX4_lost_87 rfl ?_
        exact am_drop [1, 2, 3, 5] rfl (ih _ _ _ h KX)
      clear h
      refine am_if_ne 70 dX4_lost_59 rfl (fun b16 => ?_) (fun b16 => ?_)
      · replace h6 := am_ifF b16 h6
        refine am_iload dX4_lost_70 rfl ?_
        refine am_if_gt 84 dX4_lost_72 rfl (fun b11 => ?_) (fun b11 => ?_)
        · replace h6 := am_ifT b11 h6
          obtain rfl := Option.some.inj h6
          exact am_drop [1, 2, 3, 5] rfl KK7
        · replace h6 := am_ifF b11 h6
          refine am_lload_n dX4_lost_75 rfl ?_
          refine am_iload_n dX4_lost_76 rfl ?_
          refine am_iload dX4_lost_77 rfl ?_
          obtain ⟨r9, c8, h6⟩ := am_bnd h6
          refine am_callSl (as := [.inl a1, .inl a5]) dX4_lost_79 cs_RX4_290 cb_X4_choose rfl rfl (Nat.le_of_ble_eq_true rfl) (c_X4_choose c8) ?_
          refine am_ladd dX4_lost_82 ?_
          obtain ⟨v10, ev10, h6⟩ := am_letE h6
          refine am_topL ev10 ?_
          refine am_lstore_n (ls' := [(1, .inl a1), (2, .inl a2), (3, .inr (.inl v10)), (5, .inl a5), (6, .inl v4)]) dX4_lost_83 (Nat.le_of_ble_eq_true rfl) rfl ?_
          obtain rfl := Option.some.inj h6
          exact am_drop [1, 2, 3, 5] rfl KK7
      · replace h6 := am_ifT b16 h6
        refine am_iload dX4_lost_62 rfl ?_
        refine am_if_le 84 dX4_lost_64 rfl (fun b15 => ?_) (fun b15 => ?_)
        · replace h6 := am_ifT b15 h6
          obtain rfl := Option.some.inj h6
          exact am_drop [1, 2, 3, 5] rfl KK7
        · replace h6 := am_ifF b15 h6
          refine am_goto 75 dX4_lost_67 rfl ?_
          refine am_lload_n dX4_lost_75 rfl ?_
          refine am_iload_n dX4_lost_76 rfl ?_
          refine am_iload dX4_lost_77 rfl ?_
          obtain ⟨r13, c12, h6⟩ := am_bnd h6
          refine am_callSl (as := [.inl a1, .inl a5]) dX4_lost_79 cs_RX4_290 cb_X4_choose rfl rfl (Nat.le_of_ble_eq_true rfl) (c_X4_choose c12) ?_
          refine am_ladd dX4_lost_82 ?_
          obtain ⟨v14, ev14, h6⟩ := am_letE h6
          refine am_topL ev14 ?_
          refine am_lstore_n (ls' := [(1, .inl a1), (2, .inl a2), (3, .inr (.inl v14)), (5, .inl a5), (6, .inl v4)]) dX4_lost_83 (Nat.le_of_ble_eq_true rfl) rfl ?_
          obtain rfl := Option.some.inj h6
          exact am_drop [1, 2, 3, 5] rfl KK7
def f_X4_lost (M : am_M) (x1 : Int32) : Option (Int32 × am_M) :=
  (f_X4_isWithin M x1 (20 : Int32)).bind (fun r2 => (if r2 = 0 then (f_X4_refuse M (-2 : Int32)).bind (fun r23 => some (r23.1, r23.2)) else am_let (if 0 ≤ (((2 : Int32) * (M.1 1 0 0 2)) - (M.1 1 0 0 1)) then (((2 : Int32) * (M.1 1 0 0 2)) - (M.1 1 0 0 1)) else 0 - (((2 : Int32) * (M.1 1 0 0 2)) - (M.1 1 0 0 1))) (fun v3 => (l_X4_lost_42 M x1 v3 1000 (0 : Int64) (0 : Int32)).bind (fun z19 => some (z19.toInt32, M)))))
set_option maxHeartbeats 4000000 in
theorem w_X4_lost {K : am_K} {d : Nat} {post : Option am_V → am_M → Prop} {M : am_M} {x1 : Int32} {y : Int32 × am_M} (h : f_X4_lost M x1 = some y) (hp : post (some (.inl y.1)) y.2) : am_W K (d + 2) m_X4_lost 0 [(0, .inr (.inr (4, 0, 0))), (1, .inl x1)] [] M post := by
  unfold f_X4_lost at h
  refine am_iload_n dX4_lost_0 rfl ?_
  refine am_bipush dX4_lost_1 bp_20 ?_
  obtain ⟨r2, c1, h⟩ := am_bnd h
  refine am_callSi (as := [.inl x1, .inl (20 : Int32)]) dX4_lost_3 cs_RX4_54 cb_X4_isWithin rfl rfl (Nat.le_of_ble_eq_true rfl) (c_X4_isWithin c1) ?_
  refine am_if_ne 16 dX4_lost_6 rfl (fun b24 => ?_) (fun b24 => ?_)
  · replace h := am_ifF b24 h
    refine am_iconst dX4_lost_16 ic_2 ?_
    refine am_aload_n dX4_lost_17 rfl ?_
    refine am_getR (o' := 0) dX4_lost_18 fl_RX4_12 sh_4 rfl rfl hk_4 ?_
    refine am_getI dX4_lost_21 fl_RX4_279 sh_1 rfl hk_1 ?_
    refine am_imul dX4_lost_24 ?_
    refine am_aload_n dX4_lost_25 rfl ?_
    refine am_getR (o' := 0) dX4_lost_26 fl_RX4_12 sh_4 rfl rfl hk_4 ?_
    refine am_getI dX4_lost_29 fl_RX4_282 sh_1 rfl hk_1 ?_
    refine am_isub dX4_lost_32 ?_
    refine am_mabs dX4_lost_33 cm_RX4_285 (Nat.le_of_ble_eq_true rfl) ?_
    obtain ⟨v3, ev3, h⟩ := am_letE h
    refine am_topI ev3 ?_
    refine am_istore_n (ls' := [(0, .inr (.inr (4, 0, 0))), (1, .inl x1), (2, .inl v3)]) dX4_lost_36 (Nat.le_of_ble_eq_true rfl) rfl ?_
    refine am_lconst dX4_lost_37 lc_0 ?_
    refine am_lstore_n (ls' := [(0, .inr (.inr (4, 0, 0))), (1, .inl x1), (2, .inl v3), (3, .inr (.inl (0 : Int64)))]) dX4_lost_38 (Nat.le_of_ble_eq_true rfl) rfl ?_
    refine am_iconst dX4_lost_39 ic_0 ?_
    refine am_istore (ls' := [(0, .inr (.inr (4, 0, 0))), (1, .inl x1), (2, .inl v3), (3, .inr (.inl (0 : Int64))), (5, .inl (0 : Int32))]) dX4_lost_40 (Nat.le_of_ble_eq_true rfl) rfl ?_
    obtain ⟨z19, h20, h⟩ := am_bnd h
    have KK21 : am_W K (d + 2) m_X4_lost 90 [(3, .inr (.inl z19))] [] M post := by
      refine am_lload_n dX4_lost_90 rfl ?_
      refine am_l2i dX4_lost_91 ?_
      obtain rfl := Option.some.inj h
      exact am_ireturn dX4_lost_92 rfl rfl hp
    exact am_drop [1, 2, 3, 5] rfl (wl_X4_lost_42 _ _ _ _ h20 KK21)
  · replace h := am_ifT b24 h
    refine am_aload_n dX4_lost_9 rfl ?_
    refine am_bipush dX4_lost_10 bp_m2 ?_
    obtain ⟨r23, c22, h⟩ := am_bnd h
    refine am_callVi (as := [.inl (-2 : Int32)]) dX4_lost_12 cv_RX4_58 cb_X4_refuse sh_4 rfl hk_4 rfl rfl (Nat.le_of_ble_eq_true rfl) (c_X4_refuse c22) ?_
    obtain rfl := Option.some.inj h
    exact am_ireturn dX4_lost_15 rfl rfl hp
theorem c_X4_lost {K : am_K} {d : Nat} {M : am_M} {x1 : Int32} {y : Int32 × am_M} (h : f_X4_lost M x1 = some y) : am_Met K (d + 2) m_X4_lost [.inr (.inr (4, 0, 0)), .inl x1] M (fun q N => q = some (.inl y.1) ∧ N = y.2) :=
  am_Met_of cb_X4_lost (Nat.le_of_ble_eq_true rfl) (w_X4_lost h ⟨rfl, rfl⟩)
def f_X4_againstBooks (M : am_M) (x1 : Int32) (x2 : Int32) : Option (Int32) :=
  (f_X4_againstRows M x1 x2).bind (fun r2 => (if r2 = 0 then if am_inb x1 8 = true then (if (M.1 2 x1.toNatClampNeg 0 1) = (M.1 1 0 0 1) then if am_inb x2 8 = true then (if (M.1 2 x2.toNatClampNeg 0 1) = (M.1 1 0 0 1) then some r2 else some (-2 : Int32)) else none else some (-2 : Int32)) else none else some r2))
set_option maxHeartbeats 4000000 in
theorem w_X4_againstBooks {K : am_K} {d : Nat} {post : Option am_V → am_M → Prop} {M : am_M} {x1 : Int32} {x2 : Int32} {y : Int32} (h : f_X4_againstBooks M x1 x2 = some y) (hp : post (some (.inl y)) M) : am_W K (d + 3) m_X4_againstBooks 0 [(0, .inr (.inr (4, 0, 0))), (1, .inl x1), (2, .inl x2)] [] M post := by
  unfold f_X4_againstBooks at h
  refine am_aload_n dX4_againstBooks_0 rfl ?_
  refine am_iload_n dX4_againstBooks_1 rfl ?_
  refine am_iload_n dX4_againstBooks_2 rfl ?_
  obtain ⟨r2, c1, h⟩ := am_bnd h
  refine am_callVi (as := [.inl x1, .inl x2]) dX4_againstBooks_3 cv_RX4_66 cb_X4_againstRows sh_4 rfl hk_4 rfl rfl (Nat.le_of_ble_eq_true rfl) (c_X4_againstRows c1) ?_
  refine am_istore_n (ls' := [(0, .inr (.inr (4, 0, 0))), (1, .inl x1), (2, .inl x2), (3, .inl r2)]) dX4_againstBooks_6 (Nat.le_of_ble_eq_true rfl) rfl ?_
  refine am_iload_n dX4_againstBooks_7 rfl ?_
  refine am_if_ne 52 dX4_againstBooks_8 rfl (fun b7 => ?_) (fun b7 => ?_)
  · replace h := am_ifF b7 h
    refine am_iload_n dX4_againstBooks_52 rfl ?_
    obtain rfl := Option.some.inj h
    exact am_ireturn dX4_againstBooks_53 rfl rfl hp
  · replace h := am_ifT b7 h
    refine am_aload_n dX4_againstBooks_11 rfl ?_
    refine am_getR (o' := 0) dX4_againstBooks_12 fl_RX4_38 sh_4 rfl rfl hk_4 ?_
    refine am_iload_n dX4_againstBooks_15 rfl ?_
    obtain ⟨g3, h⟩ := am_grd h
    refine am_aaload dX4_againstBooks_16 sh_505 rfl rfl hk_505 (am_inbE g3) ?_
    refine am_top (w := .inr (.inr (2, x1.toNatClampNeg, 0))) rfl ?_
    refine am_getI dX4_againstBooks_17 fl_RX4_323 sh_2 rfl hk_2 ?_
    refine am_aload_n dX4_againstBooks_20 rfl ?_
    refine am_getR (o' := 0) dX4_againstBooks_21 fl_RX4_12 sh_4 rfl rfl hk_4 ?_
    refine am_getI dX4_againstBooks_24 fl_RX4_282 sh_1 rfl hk_1 ?_
    refine am_icmp_ne 49 dX4_againstBooks_27 rfl (fun b6 => ?_) (fun b6 => ?_)
    · replace h := am_ifF b6 h
      refine am_bipush dX4_againstBooks_49 bp_m2 ?_
      obtain rfl := Option.some.inj h
      exact am_ireturn dX4_againstBooks_51 rfl rfl hp
    · replace h := am_ifT b6 h
      refine am_aload_n dX4_againstBooks_30 rfl ?_
      refine am_getR (o' := 0) dX4_againstBooks_31 fl_RX4_38 sh_4 rfl rfl hk_4 ?_
      refine am_iload_n dX4_againstBooks_34 rfl ?_
      obtain ⟨g4, h⟩ := am_grd h
      refine am_aaload dX4_againstBooks_35 sh_505 rfl rfl hk_505 (am_inbE g4) ?_
      refine am_top (w := .inr (.inr (2, x2.toNatClampNeg, 0))) rfl ?_
      refine am_getI dX4_againstBooks_36 fl_RX4_323 sh_2 rfl hk_2 ?_
      refine am_aload_n dX4_againstBooks_39 rfl ?_
      refine am_getR (o' := 0) dX4_againstBooks_40 fl_RX4_12 sh_4 rfl rfl hk_4 ?_
      refine am_getI dX4_againstBooks_43 fl_RX4_282 sh_1 rfl hk_1 ?_
      refine am_icmp_eq 52 dX4_againstBooks_46 rfl (fun b5 => ?_) (fun b5 => ?_)
      · replace h := am_ifT b5 h
        refine am_iload_n dX4_againstBooks_52 rfl ?_
        obtain rfl := Option.some.inj h
        exact am_ireturn dX4_againstBooks_53 rfl rfl hp
      · replace h := am_ifF b5 h
        refine am_bipush dX4_againstBooks_49 bp_m2 ?_
        obtain rfl := Option.some.inj h
        exact am_ireturn dX4_againstBooks_51 rfl rfl hp
theorem c_X4_againstBooks {K : am_K} {d : Nat} {M : am_M} {x1 : Int32} {x2 : Int32} {y : Int32} (h : f_X4_againstBooks M x1 x2 = some y) : am_Met K (d + 3) m_X4_againstBooks [.inr (.inr (4, 0, 0)), .inl x1, .inl x2] M (fun q N => q = some (.inl y) ∧ N = M) :=
  am_Met_of cb_X4_againstBooks (Nat.le_of_ble_eq_true rfl) (w_X4_againstBooks h ⟨rfl, rfl⟩)
def l_X4_agreeing_73 (M : am_M) (o1a : Nat) (o2a : Nat) (a3 : Int64) (a6 : Int32) (a8 : Int32) : Nat → Int32 → Int32 → Int32 → Option (Int32 × Int32 × Int32)
  | 0, _, _, _ => none
  | n + 1, a5, a9, a10 => (if a8 ≤ a5 then some (a5, a9, a10) else (f_X2_slipAt M o1a a5).bind (fun r9 => ((if r9 = (-1 : Int32) then (f_X2_slipAt M o2a a5).bind (fun r16 => some r16) else (f_X2_slipAt M o1a a5).bind (fun r14 => some r14)) : Option (Int32)).bind (fun z10 => ((if z10 = (-1 : Int32) then some (1 : Int32) else some (0 : Int32)) : Option (Int32)).bind (fun z18 => am_let (a9 + z18) (fun v22 => ((if z10 = (1 : Int32) then some (1 : Int32) else some (0 : Int32)) : Option (Int32)).bind (fun z23 => am_let (a10 - z23) (fun v27 => am_let (a5 + (1 : Int32)) (fun v28 => l_X4_agreeing_73 M o1a o2a a3 a6 a8 n v28 v22 v27))))))))
set_option maxHeartbeats 4000000 in
theorem wl_X4_agreeing_73 {K : am_K} {d : Nat} {post : Option am_V → am_M → Prop} {M : am_M} {o1a : Nat} {o2a : Nat} {a3 : Int64} {a6 : Int32} {a8 : Int32} : ∀ (n : Nat) (a5 : Int32) (a9 : Int32) (a10 : Int32) (x : Int32 × Int32 × Int32), l_X4_agreeing_73 M o1a o2a a3 a6 a8 n a5 a9 a10 = some x → am_W K (d + 3) m_X4_agreeing 145 [(0, .inr (.inr (4, 0, 0))), (1, .inr (.inr (2, o1a, 0))), (2, .inr (.inr (2, o2a, 0))), (3, .inr (.inl a3)), (5, .inl x.1), (6, .inl a6), (9, .inl x.2.1), (10, .inl x.2.2)] [] M post → am_W K (d + 3) m_X4_agreeing 73 [(0, .inr (.inr (4, 0, 0))), (1, .inr (.inr (2, o1a, 0))), (2, .inr (.inr (2, o2a, 0))), (3, .inr (.inl a3)), (5, .inl a5), (6, .inl a6), (8, .inl a8), (9, .inl a9), (10, .inl a10)] [] M post := by
  intro n
  induction n with
  | zero => intro a5 a9 a10 x h KX; cases h
  | succ n ih =>
    intro a5 a9 a10 x h KX
    rw [l_X4_agreeing_73] at h
    refine am_iload dX4_agreeing_73 rfl ?_
    refine am_iload dX4_agreeing_75 rfl ?_
    refine am_icmp_ge 145 dX4_agreeing_77 rfl (fun b29 => ?_) (fun b29 => ?_)
    · replace h := am_ifT b29 h
      obtain rfl := Option.some.inj h
      exact am_drop [0, 1, 2, 3, 5, 6, 9, 10] rfl KX
    · replace h := am_ifF b29 h
      refine am_aload_n dX4_agreeing_80 rfl ?_
      refine am_iload dX4_agreeing_81 rfl ?_
      obtain ⟨r9, c8, h⟩ := am_bnd h
      refine am_callVi (as := [.inl a5]) dX4_agreeing_83 cv_RX4_355 cb_X2_slipAt sh_2 rfl hk_2 rfl rfl (Nat.le_of_ble_eq_true rfl) (c_X2_slipAt c8) ?_
      refine am_iconst dX4_agreeing_86 ic_m1 ?_
      obtain ⟨z10, h11, h⟩ := am_bnd h
      have KK12 : am_W K (d + 3) m_X4_agreeing 105 [(0, .inr (.inr (4, 0, 0))), (1, .inr (.inr (2, o1a, 0))), (2, .inr (.inr (2, o2a, 0))), (3, .inr (.inl a3)), (5, .inl a5), (6, .inl a6), (8, .inl a8), (9, .inl a9), (10, .inl a10)] [.inl z10] M post := by
        refine am_istore (ls' := [(0, .inr (.inr (4, 0, 0))), (1, .inr (.inr (2, o1a, 0))), (2, .inr (.inr (2, o2a, 0))), (3, .inr (.inl a3)), (5, .inl a5), (6, .inl a6), (8, .inl a8), (9, .inl a9), (10, .inl a10), (11, .inl z10)]) dX4_agreeing_105 (Nat.le_of_ble_eq_true rfl) rfl ?_
        refine am_iload dX4_agreeing_107 rfl ?_
        refine am_iload dX4_agreeing_109 rfl ?_
        refine am_iconst dX4_agreeing_111 ic_m1 ?_
        obtain ⟨z18, h19, h⟩ := am_bnd h
        have KK20 : am_W K (d + 3) m_X4_agreeing 120 [(0, .inr (.inr (4, 0, 0))), (1, .inr (.inr (2, o1a, 0))), (2, .inr (.inr (2, o2a, 0))), (3, .inr (.inl a3)), (5, .inl a5), (6, .inl a6), (8, .inl a8), (10, .inl a10), (11, .inl z10)] [.inl z18, .inl a9] M post := by
          refine am_iadd dX4_agreeing_120 ?_
          obtain ⟨v22, ev22, h⟩ := am_letE h
          refine am_topI ev22 ?_
          refine am_istore (ls' := [(0, .inr (.inr (4, 0, 0))), (1, .inr (.inr (2, o1a, 0))), (2, .inr (.inr (2, o2a, 0))), (3, .inr (.inl a3)), (5, .inl a5), (6, .inl a6), (8, .inl a8), (9, .inl v22), (10, .inl a10), (11, .inl z10)]) dX4_agreeing_121 (Nat.le_of_ble_eq_true rfl) rfl ?_
          refine am_iload dX4_agreeing_123 rfl ?_
          refine am_iload dX4_agreeing_125 rfl ?_
          refine am_iconst dX4_agreeing_127 ic_1 ?_
          obtain ⟨z23, h24, h⟩ := am_bnd h
          have KK25 : am_W K (d + 3) m_X4_agreeing 136 [(0, .inr (.inr (4, 0, 0))), (1, .inr (.inr (2, o1a, 0))), (2, .inr (.inr (2, o2a, 0))), (3, .inr (.inl a3)), (5, .inl a5), (6, .inl a6), (8, .inl a8), (9, .inl v22)] [.inl z23, .inl a10] M post := by
            refine am_isub dX4_agreeing_136 ?_
            obtain ⟨v27, ev27, h⟩ := am_letE h
            refine am_topI ev27 ?_
            refine am_istore (ls' := [(0, .inr (.inr (4, 0, 0))), (1, .inr (.inr (2, o1a, 0))), (2, .inr (.inr (2, o2a, 0))), (3, .inr (.inl a3)), (5, .inl a5), (6, .inl a6), (8, .inl a8), (9, .inl v22), (10, .inl v27)]) dX4_agreeing_137 (Nat.le_of_ble_eq_true rfl) rfl ?_
            obtain ⟨v28, ev28, h⟩ := am_letE h
            refine am_iinc (ls' := [(0, .inr (.inr (4, 0, 0))), (1, .inr (.inr (2, o1a, 0))), (2, .inr (.inr (2, o2a, 0))), (3, .inr (.inl a3)), (5, .inl v28), (6, .inl a6), (8, .inl a8), (9, .inl v22), (10, .inl v27)]) dX4_agreeing_139 rfl ((congrArg (fun z => a5 + z) ic_1).trans ev28.symm) (Nat.le_of_ble_eq_true rfl) rfl ?_
            refine am_goto 73 dX4_agreeing_142 rfl ?_
            exact am_drop [0, 1, 2, 3, 5, 6, 8, 9, 10] rfl (ih _ _ _ _ h KX)
          clear h
          refine am_icmp_ne 135 dX4_agreeing_128 rfl (fun b26 => ?_) (fun b26 => ?_)
          · replace h24 := am_ifF b26 h24
            refine am_iconst dX4_agreeing_135 ic_0 ?_
            obtain rfl := Option.some.inj h24
            exact am_drop [0, 1, 2, 3, 5, 6, 8, 9] rfl KK25
          · replace h24 := am_ifT b26 h24
            refine am_iconst dX4_agreeing_131 ic_1 ?_
            refine am_goto 136 dX4_agreeing_132 rfl ?_
            obtain rfl := Option.some.inj h24
            exact am_drop [0, 1, 2, 3, 5, 6, 8, 9] rfl KK25
        clear h
        refine am_icmp_ne 119 dX4_agreeing_112 rfl (fun b21 => ?_) (fun b21 => ?_)
        · replace h19 := am_ifF b21 h19
          refine am_iconst dX4_agreeing_119 ic_0 ?_
          obtain rfl := Option.some.inj h19
          exact am_drop [0, 1, 2, 3, 5, 6, 8, 10, 11] rfl KK20
        · replace h19 := am_ifT b21 h19
          refine am_iconst dX4_agreeing_115 ic_1 ?_
          refine am_goto 120 dX4_agreeing_116 rfl ?_
          obtain rfl := Option.some.inj h19
          exact am_drop [0, 1, 2, 3, 5, 6, 8, 10, 11] rfl KK20
      clear h
      refine am_icmp_ne 99 dX4_agreeing_87 rfl (fun b17 => ?_) (fun b17 => ?_)
      · replace h11 := am_ifF b17 h11
        refine am_aload_n dX4_agreeing_99 rfl ?_
        refine am_iload dX4_agreeing_100 rfl ?_
        obtain ⟨r14, c13, h11⟩ := am_bnd h11
        refine am_callVi (as := [.inl a5]) dX4_agreeing_102 cv_RX4_355 cb_X2_slipAt sh_2 rfl hk_2 rfl rfl (Nat.le_of_ble_eq_true rfl) (c_X2_slipAt c13) ?_
        obtain rfl := Option.some.inj h11
        exact am_drop [0, 1, 2, 3, 5, 6, 8, 9, 10] rfl KK12
      · replace h11 := am_ifT b17 h11
        refine am_aload_n dX4_agreeing_90 rfl ?_
        refine am_iload dX4_agreeing_91 rfl ?_
        obtain ⟨r16, c15, h11⟩ := am_bnd h11
        refine am_callVi (as := [.inl a5]) dX4_agreeing_93 cv_RX4_355 cb_X2_slipAt sh_2 rfl hk_2 rfl rfl (Nat.le_of_ble_eq_true rfl) (c_X2_slipAt c15) ?_
        refine am_goto 105 dX4_agreeing_96 rfl ?_
        obtain rfl := Option.some.inj h11
        exact am_drop [0, 1, 2, 3, 5, 6, 8, 9, 10] rfl KK12
def l_X4_agreeing_8 (M : am_M) (o1a : Nat) (o2a : Nat) : Nat → Int64 → Int32 → Int32 → Option (Int64)
  | 0, _, _, _ => none
  | n + 1, a3, a5, a6 => (if (M.1 1 0 0 0) ≤ a6 then some a3 else if am_inb a6 4 = true then am_let (M.1 205 0 0 a6.toNatClampNeg) (fun v2 => if am_inb v2 4 = true then if am_inb v2 4 = true then am_let ((a5 + (M.1 203 0 0 v2.toNatClampNeg)) + (M.1 204 0 0 v2.toNatClampNeg)) (fun v5 => if am_inb v2 4 = true then am_let (M.1 203 0 0 v2.toNatClampNeg) (fun v7 => (l_X4_agreeing_73 M o1a o2a a3 a6 v5 1000 a5 (0 : Int32) v7).bind (fun z30 => (f_X4_choose M z30.2.1 z30.2.2).bind (fun r34 => am_let (a3 * r34) (fun v35 => am_let (a6 + (1 : Int32)) (fun v36 => l_X4_agreeing_8 M o1a o2a n v35 z30.1 v36))))) else none) else none else none) else none)
set_option maxHeartbeats 4000000 in
theorem wl_X4_agreeing_8 {K : am_K} {d : Nat} {post : Option am_V → am_M → Prop} {M : am_M} {o1a : Nat} {o2a : Nat} : ∀ (n : Nat) (a3 : Int64) (a5 : Int32) (a6 : Int32) (x : Int64), l_X4_agreeing_8 M o1a o2a n a3 a5 a6 = some x → am_W K (d + 3) m_X4_agreeing 161 [(3, .inr (.inl x))] [] M post → am_W K (d + 3) m_X4_agreeing 8 [(0, .inr (.inr (4, 0, 0))), (1, .inr (.inr (2, o1a, 0))), (2, .inr (.inr (2, o2a, 0))), (3, .inr (.inl a3)), (5, .inl a5), (6, .inl a6)] [] M post := by
  intro n
  induction n with
  | zero => intro a3 a5 a6 x h KX; cases h
  | succ n ih =>
    intro a3 a5 a6 x h KX
    rw [l_X4_agreeing_8] at h
    refine am_iload dX4_agreeing_8 rfl ?_
    refine am_aload_n dX4_agreeing_10 rfl ?_
    refine am_getR (o' := 0) dX4_agreeing_11 fl_RX4_12 sh_4 rfl rfl hk_4 ?_
    refine am_getI dX4_agreeing_14 fl_RX4_123 sh_1 rfl hk_1 ?_
    refine am_icmp_ge 161 dX4_agreeing_17 rfl (fun b37 => ?_) (fun b37 => ?_)
    · replace h := am_ifT b37 h
      obtain rfl := Option.some.inj h
      exact am_drop [3] rfl KX
    · replace h := am_ifF b37 h
      refine am_aload_n dX4_agreeing_20 rfl ?_
      refine am_getR (o' := 0) dX4_agreeing_21 fl_RX4_12 sh_4 rfl rfl hk_4 ?_
      refine am_getR (o' := 0) dX4_agreeing_24 fl_RX4_193 sh_1 rfl rfl hk_1 ?_
      refine am_iload dX4_agreeing_27 rfl ?_
      obtain ⟨g1, h⟩ := am_grd h
      refine am_iaload dX4_agreeing_29 sh_205 hk_205 (am_inbE g1) ?_
      obtain ⟨v2, ev2, h⟩ := am_letE h
      refine am_topI ev2 ?_
      refine am_istore (ls' := [(0, .inr (.inr (4, 0, 0))), (1, .inr (.inr (2, o1a, 0))), (2, .inr (.inr (2, o2a, 0))), (3, .inr (.inl a3)), (5, .inl a5), (6, .inl a6), (7, .inl v2)]) dX4_agreeing_30 (Nat.le_of_ble_eq_true rfl) rfl ?_
      refine am_iload dX4_agreeing_32 rfl ?_
      refine am_aload_n dX4_agreeing_34 rfl ?_
      refine am_getR (o' := 0) dX4_agreeing_35 fl_RX4_12 sh_4 rfl rfl hk_4 ?_
      refine am_getR (o' := 0) dX4_agreeing_38 fl_RX4_165 sh_1 rfl rfl hk_1 ?_
      refine am_iload dX4_agreeing_41 rfl ?_
      obtain ⟨g3, h⟩ := am_grd h
      refine am_iaload dX4_agreeing_43 sh_203 hk_203 (am_inbE g3) ?_
      refine am_iadd dX4_agreeing_44 ?_
      refine am_aload_n dX4_agreeing_45 rfl ?_
      refine am_getR (o' := 0) dX4_agreeing_46 fl_RX4_12 sh_4 rfl rfl hk_4 ?_
      refine am_getR (o' := 0) dX4_agreeing_49 fl_RX4_168 sh_1 rfl rfl hk_1 ?_
      refine am_iload dX4_agreeing_52 rfl ?_
      obtain ⟨g4, h⟩ := am_grd h
      refine am_iaload dX4_agreeing_54 sh_204 hk_204 (am_inbE g4) ?_
      refine am_iadd dX4_agreeing_55 ?_
      obtain ⟨v5, ev5, h⟩ := am_letE h
      refine am_topI ev5 ?_
      refine am_istore (ls' := [(0, .inr (.inr (4, 0, 0))), (1, .inr (.inr (2, o1a, 0))), (2, .inr (.inr (2, o2a, 0))), (3, .inr (.inl a3)), (5, .inl a5), (6, .inl a6), (7, .inl v2), (8, .inl v5)]) dX4_agreeing_56 (Nat.le_of_ble_eq_true rfl) rfl ?_
      refine am_iconst dX4_agreeing_58 ic_0 ?_
      refine am_istore (ls' := [(0, .inr (.inr (4, 0, 0))), (1, .inr (.inr (2, o1a, 0))), (2, .inr (.inr (2, o2a, 0))), (3, .inr (.inl a3)), (5, .inl a5), (6, .inl a6), (7, .inl v2), (8, .inl v5), (9, .inl (0 : Int32))]) dX4_agreeing_59 (Nat.le_of_ble_eq_true rfl) rfl ?_
      refine am_aload_n dX4_agreeing_61 rfl ?_
      refine am_getR (o' := 0) dX4_agreeing_62 fl_RX4_12 sh_4 rfl rfl hk_4 ?_
      refine am_getR (o' := 0) dX4_agreeing_65 fl_RX4_165 sh_1 rfl rfl hk_1 ?_
      refine am_iload dX4_agreeing_68 rfl ?_
      obtain ⟨g6, h⟩ := am_grd h
      refine am_iaload dX4_agreeing_70 sh_203 hk_203 (am_inbE g6) ?_
      obtain ⟨v7, ev7, h⟩ := am_letE h
      refine am_topI ev7 ?_
      refine am_istore (ls' := [(0, .inr (.inr (4, 0, 0))), (1, .inr (.inr (2, o1a, 0))), (2, .inr (.inr (2, o2a, 0))), (3, .inr (.inl a3)), (5, .inl a5), (6, .inl a6), (7, .inl v2), (8, .inl v5), (9, .inl (0 : Int32)), (10, .inl v7)]) dX4_agreeing_71 (Nat.le_of_ble_eq_true rfl) rfl ?_
      obtain ⟨z30, h31, h⟩ := am_bnd h
      have KK32 : am_W K (d + 3) m_X4_agreeing 145 [(0, .inr (.inr (4, 0, 0))), (1, .inr (.inr (2, o1a, 0))), (2, .inr (.inr (2, o2a, 0))), (3, .inr (.inl a3)), (5, .inl z30.1), (6, .inl a6), (9, .inl z30.2.1), (10, .inl z30.2.2)] [] M post := by
        refine am_lload_n dX4_agreeing_145 rfl ?_
        refine am_iload dX4_agreeing_146 rfl ?_
        refine am_iload dX4_agreeing_148 rfl ?_
        obtain ⟨r34, c33, h⟩ := am_bnd h
        refine am_callSl (as := [.inl z30.2.1, .inl z30.2.2]) dX4_agreeing_150 cs_RX4_290 cb_X4_choose rfl rfl (Nat.le_of_ble_eq_true rfl) (c_X4_choose c33) ?_
        refine am_lmul dX4_agreeing_153 ?_
        obtain ⟨v35, ev35, h⟩ := am_letE h
        refine am_topL ev35 ?_
        refine am_lstore_n (ls' := [(0, .inr (.inr (4, 0, 0))), (1, .inr (.inr (2, o1a, 0))), (2, .inr (.inr (2, o2a, 0))), (3, .inr (.inl v35)), (5, .inl z30.1), (6, .inl a6), (9, .inl z30.2.1), (10, .inl z30.2.2)]) dX4_agreeing_154 (Nat.le_of_ble_eq_true rfl) rfl ?_
        obtain ⟨v36, ev36, h⟩ := am_letE h
        refine am_iinc (ls' := [(0, .inr (.inr (4, 0, 0))), (1, .inr (.inr (2, o1a, 0))), (2, .inr (.inr (2, o2a, 0))), (3, .inr (.inl v35)), (5, .inl z30.1), (6, .inl v36), (9, .inl z30.2.1), (10, .inl z30.2.2)]) dX4_agreeing_155 rfl ((congrArg (fun z => a6 + z) ic_1).trans ev36.symm) (Nat.le_of_ble_eq_true rfl) rfl ?_
        refine am_goto 8 dX4_agreeing_158 rfl ?_
        exact am_drop [0, 1, 2, 3, 5, 6] rfl (ih _ _ _ _ h KX)
      exact am_drop [0, 1, 2, 3, 5, 6, 8, 9, 10] rfl (wl_X4_agreeing_73 _ _ _ _ _ h31 KK32)
def f_X4_agreeing (M : am_M) (o1 : Nat) (o2 : Nat) : Option (Int32) :=
  (l_X4_agreeing_8 M o1 o2 1000 (1 : Int64) (0 : Int32) (0 : Int32)).bind (fun z38 => some z38.toInt32)
set_option maxHeartbeats 4000000 in
theorem w_X4_agreeing {K : am_K} {d : Nat} {post : Option am_V → am_M → Prop} {M : am_M} {o1 : Nat} {o2 : Nat} {y : Int32} (h : f_X4_agreeing M o1 o2 = some y) (hp : post (some (.inl y)) M) : am_W K (d + 3) m_X4_agreeing 0 [(0, .inr (.inr (4, 0, 0))), (1, .inr (.inr (2, o1, 0))), (2, .inr (.inr (2, o2, 0)))] [] M post := by
  unfold f_X4_agreeing at h
  refine am_lconst dX4_agreeing_0 lc_1 ?_
  refine am_lstore_n (ls' := [(0, .inr (.inr (4, 0, 0))), (1, .inr (.inr (2, o1, 0))), (2, .inr (.inr (2, o2, 0))), (3, .inr (.inl (1 : Int64)))]) dX4_agreeing_1 (Nat.le_of_ble_eq_true rfl) rfl ?_
  refine am_iconst dX4_agreeing_2 ic_0 ?_
  refine am_istore (ls' := [(0, .inr (.inr (4, 0, 0))), (1, .inr (.inr (2, o1, 0))), (2, .inr (.inr (2, o2, 0))), (3, .inr (.inl (1 : Int64))), (5, .inl (0 : Int32))]) dX4_agreeing_3 (Nat.le_of_ble_eq_true rfl) rfl ?_
  refine am_iconst dX4_agreeing_5 ic_0 ?_
  refine am_istore (ls' := [(0, .inr (.inr (4, 0, 0))), (1, .inr (.inr (2, o1, 0))), (2, .inr (.inr (2, o2, 0))), (3, .inr (.inl (1 : Int64))), (5, .inl (0 : Int32)), (6, .inl (0 : Int32))]) dX4_agreeing_6 (Nat.le_of_ble_eq_true rfl) rfl ?_
  obtain ⟨z38, h39, h⟩ := am_bnd h
  have KK40 : am_W K (d + 3) m_X4_agreeing 161 [(3, .inr (.inl z38))] [] M post := by
    refine am_lload_n dX4_agreeing_161 rfl ?_
    refine am_l2i dX4_agreeing_162 ?_
    obtain rfl := Option.some.inj h
    exact am_ireturn dX4_agreeing_163 rfl rfl hp
  exact am_drop [0, 1, 2, 3, 5, 6] rfl (wl_X4_agreeing_8 _ _ _ _ _ h39 KK40)
theorem c_X4_agreeing {K : am_K} {d : Nat} {M : am_M} {o1 : Nat} {o2 : Nat} {y : Int32} (h : f_X4_agreeing M o1 o2 = some y) : am_Met K (d + 3) m_X4_agreeing [.inr (.inr (4, 0, 0)), .inr (.inr (2, o1, 0)), .inr (.inr (2, o2, 0))] M (fun q N => q = some (.inl y) ∧ N = M) :=
  am_Met_of cb_X4_agreeing (Nat.le_of_ble_eq_true rfl) (w_X4_agreeing h ⟨rfl, rfl⟩)
def l_X4_firstUnlike_2 (M : am_M) (o0a : Nat) (o1a : Nat) : Nat → Int32 → Option (Int32)
  | 0, _ => none
  | n + 1, a2 => (if (M.1 2 o0a 0 1) ≤ a2 then some (-1 : Int32) else (if (M.1 2 o1a 0 1) ≤ a2 then some (-1 : Int32) else (f_X2_slipAt M o0a a2).bind (fun r2 => (if r2 = (-1 : Int32) then am_let (a2 + (1 : Int32)) (fun v3 => l_X4_firstUnlike_2 M o0a o1a n v3) else (f_X2_slipAt M o1a a2).bind (fun r5 => (if r5 = (-1 : Int32) then am_let (a2 + (1 : Int32)) (fun v6 => l_X4_firstUnlike_2 M o0a o1a n v6) else (f_X2_slipAt M o0a a2).bind (fun r8 => (f_X2_slipAt M o1a a2).bind (fun r10 => (if r8 = r10 then am_let (a2 + (1 : Int32)) (fun v11 => l_X4_firstUnlike_2 M o0a o1a n v11) else some a2)))))))))
set_option maxHeartbeats 4000000 in
theorem wl_X4_firstUnlike_2 {K : am_K} {d : Nat} {post : Option am_V → am_M → Prop} {M : am_M} {o0a : Nat} {o1a : Nat} : ∀ (n : Nat) (a2 : Int32) (y : Int32), l_X4_firstUnlike_2 M o0a o1a n a2 = some y → post (some (.inl y)) M → am_W K (d + 3) m_X4_firstUnlike 2 [(0, .inr (.inr (2, o0a, 0))), (1, .inr (.inr (2, o1a, 0))), (2, .inl a2)] [] M post := by
  intro n
  induction n with
  | zero => intro a2 y h hp; cases h
  | succ n ih =>
    intro a2 y h hp
    rw [l_X4_firstUnlike_2] at h
    refine am_iload_n dX4_firstUnlike_2 rfl ?_
    refine am_aload_n dX4_firstUnlike_3 rfl ?_
    refine am_getI dX4_firstUnlike_4 fl_RX4_323 sh_2 rfl hk_2 ?_
    refine am_icmp_ge 57 dX4_firstUnlike_7 rfl (fun b16 => ?_) (fun b16 => ?_)
    · replace h := am_ifT b16 h
      refine am_iconst dX4_firstUnlike_57 ic_m1 ?_
      obtain rfl := Option.some.inj h
      exact am_ireturn dX4_firstUnlike_58 rfl rfl hp
    · replace h := am_ifF b16 h
      refine am_iload_n dX4_firstUnlike_10 rfl ?_
      refine am_aload_n dX4_firstUnlike_11 rfl ?_
      refine am_getI dX4_firstUnlike_12 fl_RX4_323 sh_2 rfl hk_2 ?_
      refine am_icmp_ge 57 dX4_firstUnlike_15 rfl (fun b15 => ?_) (fun b15 => ?_)
      · replace h := am_ifT b15 h
        refine am_iconst dX4_firstUnlike_57 ic_m1 ?_
        obtain rfl := Option.some.inj h
        exact am_ireturn dX4_firstUnlike_58 rfl rfl hp
      · replace h := am_ifF b15 h
        refine am_aload_n dX4_firstUnlike_18 rfl ?_
        refine am_iload_n dX4_firstUnlike_19 rfl ?_
        obtain ⟨r2, c1, h⟩ := am_bnd h
        refine am_callVi (as := [.inl a2]) dX4_firstUnlike_20 cv_RX4_355 cb_X2_slipAt sh_2 rfl hk_2 rfl rfl (Nat.le_of_ble_eq_true rfl) (c_X2_slipAt c1) ?_
        refine am_iconst dX4_firstUnlike_23 ic_m1 ?_
        refine am_icmp_eq 51 dX4_firstUnlike_24 rfl (fun b14 => ?_) (fun b14 => ?_)
        · replace h := am_ifT b14 h
          obtain ⟨v3, ev3, h⟩ := am_letE h
          refine am_iinc (ls' := [(0, .inr (.inr (2, o0a, 0))), (1, .inr (.inr (2, o1a, 0))), (2, .inl v3)]) dX4_firstUnlike_51 rfl ((congrArg (fun z => a2 + z) ic_1).trans ev3.symm) (Nat.le_of_ble_eq_true rfl) rfl ?_
          refine am_goto 2 dX4_firstUnlike_54 rfl ?_
          exact am_drop [0, 1, 2] rfl (ih _ _ h hp)
        · replace h := am_ifF b14 h
          refine am_aload_n dX4_firstUnlike_27 rfl ?_
          refine am_iload_n dX4_firstUnlike_28 rfl ?_
          obtain ⟨r5, c4, h⟩ := am_bnd h
          refine am_callVi (as := [.inl a2]) dX4_firstUnlike_29 cv_RX4_355 cb_X2_slipAt sh_2 rfl hk_2 rfl rfl (Nat.le_of_ble_eq_true rfl) (c_X2_slipAt c4) ?_
          refine am_iconst dX4_firstUnlike_32 ic_m1 ?_
          refine am_icmp_eq 51 dX4_firstUnlike_33 rfl (fun b13 => ?_) (fun b13 => ?_)
          · replace h := am_ifT b13 h
            obtain ⟨v6, ev6, h⟩ := am_letE h
            refine am_iinc (ls' := [(0, .inr (.inr (2, o0a, 0))), (1, .inr (.inr (2, o1a, 0))), (2, .inl v6)]) dX4_firstUnlike_51 rfl ((congrArg (fun z => a2 + z) ic_1).trans ev6.symm) (Nat.le_of_ble_eq_true rfl) rfl ?_
            refine am_goto 2 dX4_firstUnlike_54 rfl ?_
            exact am_drop [0, 1, 2] rfl (ih _ _ h hp)
          · replace h := am_ifF b13 h
            refine am_aload_n dX4_firstUnlike_36 rfl ?_
            refine am_iload_n dX4_firstUnlike_37 rfl ?_
            obtain ⟨r8, c7, h⟩ := am_bnd h
            refine am_callVi (as := [.inl a2]) dX4_firstUnlike_38 cv_RX4_355 cb_X2_slipAt sh_2 rfl hk_2 rfl rfl (Nat.le_of_ble_eq_true rfl) (c_X2_slipAt c7) ?_
            refine am_aload_n dX4_firstUnlike_41 rfl ?_
            refine am_iload_n dX4_firstUnlike_42 rfl ?_
            obtain ⟨r10, c9, h⟩ := am_bnd h
            refine am_callVi (as := [.inl a2]) dX4_firstUnlike_43 cv_RX4_355 cb_X2_slipAt sh_2 rfl hk_2 rfl rfl (Nat.le_of_ble_eq_true rfl) (c_X2_slipAt c9) ?_
            refine am_icmp_eq 51 dX4_firstUnlike_46 rfl (fun b12 => ?_) (fun b12 => ?_)
            · replace h := am_ifT b12 h
              obtain ⟨v11, ev11, h⟩ := am_letE h
              refine am_iinc (ls' := [(0, .inr (.inr (2, o0a, 0))), (1, .inr (.inr (2, o1a, 0))), (2, .inl v11)]) dX4_firstUnlike_51 rfl ((congrArg (fun z => a2 + z) ic_1).trans ev11.symm) (Nat.le_of_ble_eq_true rfl) rfl ?_
              refine am_goto 2 dX4_firstUnlike_54 rfl ?_
              exact am_drop [0, 1, 2] rfl (ih _ _ h hp)
            · replace h := am_ifF b12 h
              refine am_iload_n dX4_firstUnlike_49 rfl ?_
              obtain rfl := Option.some.inj h
              exact am_ireturn dX4_firstUnlike_50 rfl rfl hp
def f_X4_firstUnlike (M : am_M) (o0 : Nat) (o1 : Nat) : Option (Int32) :=
  l_X4_firstUnlike_2 M o0 o1 1000 (0 : Int32)
set_option maxHeartbeats 4000000 in
theorem w_X4_firstUnlike {K : am_K} {d : Nat} {post : Option am_V → am_M → Prop} {M : am_M} {o0 : Nat} {o1 : Nat} {y : Int32} (h : f_X4_firstUnlike M o0 o1 = some y) (hp : post (some (.inl y)) M) : am_W K (d + 3) m_X4_firstUnlike 0 [(0, .inr (.inr (2, o0, 0))), (1, .inr (.inr (2, o1, 0)))] [] M post := by
  unfold f_X4_firstUnlike at h
  refine am_iconst dX4_firstUnlike_0 ic_0 ?_
  refine am_istore_n (ls' := [(0, .inr (.inr (2, o0, 0))), (1, .inr (.inr (2, o1, 0))), (2, .inl (0 : Int32))]) dX4_firstUnlike_1 (Nat.le_of_ble_eq_true rfl) rfl ?_
  exact am_drop [0, 1, 2] rfl (wl_X4_firstUnlike_2 _ _ _ h hp)
theorem c_X4_firstUnlike {K : am_K} {d : Nat} {M : am_M} {o0 : Nat} {o1 : Nat} {y : Int32} (h : f_X4_firstUnlike M o0 o1 = some y) : am_Met K (d + 3) m_X4_firstUnlike [.inr (.inr (2, o0, 0)), .inr (.inr (2, o1, 0))] M (fun q N => q = some (.inl y) ∧ N = M) :=
  am_Met_of cb_X4_firstUnlike (Nat.le_of_ble_eq_true rfl) (w_X4_firstUnlike h ⟨rfl, rfl⟩)
def f_X4_books (M : am_M) (x1 : Int32) (x2 : Int32) : Option (Int32 × am_M) :=
  (f_X4_againstBooks M x1 x2).bind (fun r2 => (if r2 = 0 then if am_inb x1 8 = true then if am_inb x2 8 = true then (f_X4_firstUnlike M x1.toNatClampNeg x2.toNatClampNeg).bind (fun r6 => (if r6 = (-1 : Int32) then if am_inb x1 8 = true then if am_inb x2 8 = true then (f_X4_agreeing M x1.toNatClampNeg x2.toNatClampNeg).bind (fun r10 => some (r10, M)) else none else none else some ((0 : Int32), M))) else none else none else (f_X4_refuse M r2).bind (fun r13 => some (r13.1, r13.2))))
set_option maxHeartbeats 4000000 in
theorem w_X4_books {K : am_K} {d : Nat} {post : Option am_V → am_M → Prop} {M : am_M} {x1 : Int32} {x2 : Int32} {y : Int32 × am_M} (h : f_X4_books M x1 x2 = some y) (hp : post (some (.inl y.1)) y.2) : am_W K (d + 4) m_X4_books 0 [(0, .inr (.inr (4, 0, 0))), (1, .inl x1), (2, .inl x2)] [] M post := by
  unfold f_X4_books at h
  refine am_aload_n dX4_books_0 rfl ?_
  refine am_iload_n dX4_books_1 rfl ?_
  refine am_iload_n dX4_books_2 rfl ?_
  obtain ⟨r2, c1, h⟩ := am_bnd h
  refine am_callVi (as := [.inl x1, .inl x2]) dX4_books_3 cv_RX4_294 cb_X4_againstBooks sh_4 rfl hk_4 rfl rfl (Nat.le_of_ble_eq_true rfl) (c_X4_againstBooks c1) ?_
  refine am_istore_n (ls' := [(0, .inr (.inr (4, 0, 0))), (1, .inl x1), (2, .inl x2), (3, .inl r2)]) dX4_books_6 (Nat.le_of_ble_eq_true rfl) rfl ?_
  refine am_iload_n dX4_books_7 rfl ?_
  refine am_if_eq 17 dX4_books_8 rfl (fun b14 => ?_) (fun b14 => ?_)
  · replace h := am_ifT b14 h
    refine am_aload_n dX4_books_17 rfl ?_
    refine am_getR (o' := 0) dX4_books_18 fl_RX4_38 sh_4 rfl rfl hk_4 ?_
    refine am_iload_n dX4_books_21 rfl ?_
    obtain ⟨g3, h⟩ := am_grd h
    refine am_aaload dX4_books_22 sh_505 rfl rfl hk_505 (am_inbE g3) ?_
    refine am_top (w := .inr (.inr (2, x1.toNatClampNeg, 0))) rfl ?_
    refine am_aload_n dX4_books_23 rfl ?_
    refine am_getR (o' := 0) dX4_books_24 fl_RX4_38 sh_4 rfl rfl hk_4 ?_
    refine am_iload_n dX4_books_27 rfl ?_
    obtain ⟨g4, h⟩ := am_grd h
    refine am_aaload dX4_books_28 sh_505 rfl rfl hk_505 (am_inbE g4) ?_
    refine am_top (w := .inr (.inr (2, x2.toNatClampNeg, 0))) rfl ?_
    obtain ⟨r6, c5, h⟩ := am_bnd h
    refine am_callSi (as := [.inr (.inr (2, x1.toNatClampNeg, 0)), .inr (.inr (2, x2.toNatClampNeg, 0))]) dX4_books_29 cs_RX4_297 cb_X4_firstUnlike rfl rfl (Nat.le_of_ble_eq_true rfl) (c_X4_firstUnlike c5) ?_
    refine am_iconst dX4_books_32 ic_m1 ?_
    refine am_icmp_ne 55 dX4_books_33 rfl (fun b11 => ?_) (fun b11 => ?_)
    · replace h := am_ifF b11 h
      refine am_iconst dX4_books_55 ic_0 ?_
      obtain rfl := Option.some.inj h
      exact am_ireturn dX4_books_56 rfl rfl hp
    · replace h := am_ifT b11 h
      refine am_aload_n dX4_books_36 rfl ?_
      refine am_aload_n dX4_books_37 rfl ?_
      refine am_getR (o' := 0) dX4_books_38 fl_RX4_38 sh_4 rfl rfl hk_4 ?_
      refine am_iload_n dX4_books_41 rfl ?_
      obtain ⟨g7, h⟩ := am_grd h
      refine am_aaload dX4_books_42 sh_505 rfl rfl hk_505 (am_inbE g7) ?_
      refine am_top (w := .inr (.inr (2, x1.toNatClampNeg, 0))) rfl ?_
      refine am_aload_n dX4_books_43 rfl ?_
      refine am_getR (o' := 0) dX4_books_44 fl_RX4_38 sh_4 rfl rfl hk_4 ?_
      refine am_iload_n dX4_books_47 rfl ?_
      obtain ⟨g8, h⟩ := am_grd h
      refine am_aaload dX4_books_48 sh_505 rfl rfl hk_505 (am_inbE g8) ?_
      refine am_top (w := .inr (.inr (2, x2.toNatClampNeg, 0))) rfl ?_
      obtain ⟨r10, c9, h⟩ := am_bnd h
      refine am_callVi (as := [.inr (.inr (2, x1.toNatClampNeg, 0)), .inr (.inr (2, x2.toNatClampNeg, 0))]) dX4_books_49 cv_RX4_301 cb_X4_agreeing sh_4 rfl hk_4 rfl rfl (Nat.le_of_ble_eq_true rfl) (c_X4_agreeing c9) ?_
      refine am_goto 56 dX4_books_52 rfl ?_
      obtain rfl := Option.some.inj h
      exact am_ireturn dX4_books_56 rfl rfl hp
  · replace h := am_ifF b14 h
    refine am_aload_n dX4_books_11 rfl ?_
    refine am_iload_n dX4_books_12 rfl ?_
    obtain ⟨r13, c12, h⟩ := am_bnd h
    refine am_callVi (as := [.inl r2]) dX4_books_13 cv_RX4_58 cb_X4_refuse sh_4 rfl hk_4 rfl rfl (Nat.le_of_ble_eq_true rfl) (c_X4_refuse c12) ?_
    obtain rfl := Option.some.inj h
    exact am_ireturn dX4_books_16 rfl rfl hp
theorem c_X4_books {K : am_K} {d : Nat} {M : am_M} {x1 : Int32} {x2 : Int32} {y : Int32 × am_M} (h : f_X4_books M x1 x2 = some y) : am_Met K (d + 4) m_X4_books [.inr (.inr (4, 0, 0)), .inl x1, .inl x2] M (fun q N => q = some (.inl y.1) ∧ N = y.2) :=
  am_Met_of cb_X4_books (Nat.le_of_ble_eq_true rfl) (w_X4_books h ⟨rfl, rfl⟩)
def f_X4_unlike (M : am_M) (x1 : Int32) (x2 : Int32) : Option (Int32 × am_M) :=
  (f_X4_againstBooks M x1 x2).bind (fun r2 => (if r2 = 0 then if am_inb x1 8 = true then if am_inb x2 8 = true then (f_X4_firstUnlike M x1.toNatClampNeg x2.toNatClampNeg).bind (fun r6 => some (r6, M)) else none else none else (f_X4_refuse M r2).bind (fun r8 => some (r8.1, r8.2))))
set_option maxHeartbeats 4000000 in
theorem w_X4_unlike {K : am_K} {d : Nat} {post : Option am_V → am_M → Prop} {M : am_M} {x1 : Int32} {x2 : Int32} {y : Int32 × am_M} (h : f_X4_unlike M x1 x2 = some y) (hp : post (some (.inl y.1)) y.2) : am_W K (d + 4) m_X4_unlike 0 [(0, .inr (.inr (4, 0, 0))), (1, .inl x1), (2, .inl x2)] [] M post := by
  unfold f_X4_unlike at h
  refine am_aload_n dX4_unlike_0 rfl ?_
  refine am_iload_n dX4_unlike_1 rfl ?_
  refine am_iload_n dX4_unlike_2 rfl ?_
  obtain ⟨r2, c1, h⟩ := am_bnd h
  refine am_callVi (as := [.inl x1, .inl x2]) dX4_unlike_3 cv_RX4_294 cb_X4_againstBooks sh_4 rfl hk_4 rfl rfl (Nat.le_of_ble_eq_true rfl) (c_X4_againstBooks c1) ?_
  refine am_istore_n (ls' := [(0, .inr (.inr (4, 0, 0))), (1, .inl x1), (2, .inl x2), (3, .inl r2)]) dX4_unlike_6 (Nat.le_of_ble_eq_true rfl) rfl ?_
  refine am_iload_n dX4_unlike_7 rfl ?_
  refine am_if_eq 19 dX4_unlike_8 rfl (fun b9 => ?_) (fun b9 => ?_)
  · replace h := am_ifT b9 h
    refine am_aload_n dX4_unlike_19 rfl ?_
    refine am_getR (o' := 0) dX4_unlike_20 fl_RX4_38 sh_4 rfl rfl hk_4 ?_
    refine am_iload_n dX4_unlike_23 rfl ?_
    obtain ⟨g3, h⟩ := am_grd h
    refine am_aaload dX4_unlike_24 sh_505 rfl rfl hk_505 (am_inbE g3) ?_
    refine am_top (w := .inr (.inr (2, x1.toNatClampNeg, 0))) rfl ?_
    refine am_aload_n dX4_unlike_25 rfl ?_
    refine am_getR (o' := 0) dX4_unlike_26 fl_RX4_38 sh_4 rfl rfl hk_4 ?_
    refine am_iload_n dX4_unlike_29 rfl ?_
    obtain ⟨g4, h⟩ := am_grd h
    refine am_aaload dX4_unlike_30 sh_505 rfl rfl hk_505 (am_inbE g4) ?_
    refine am_top (w := .inr (.inr (2, x2.toNatClampNeg, 0))) rfl ?_
    obtain ⟨r6, c5, h⟩ := am_bnd h
    refine am_callSi (as := [.inr (.inr (2, x1.toNatClampNeg, 0)), .inr (.inr (2, x2.toNatClampNeg, 0))]) dX4_unlike_31 cs_RX4_297 cb_X4_firstUnlike rfl rfl (Nat.le_of_ble_eq_true rfl) (c_X4_firstUnlike c5) ?_
    obtain rfl := Option.some.inj h
    exact am_ireturn dX4_unlike_34 rfl rfl hp
  · replace h := am_ifF b9 h
    refine am_aload_n dX4_unlike_11 rfl ?_
    refine am_iload_n dX4_unlike_12 rfl ?_
    obtain ⟨r8, c7, h⟩ := am_bnd h
    refine am_callVi (as := [.inl r2]) dX4_unlike_13 cv_RX4_58 cb_X4_refuse sh_4 rfl hk_4 rfl rfl (Nat.le_of_ble_eq_true rfl) (c_X4_refuse c7) ?_
    refine am_goto 34 dX4_unlike_16 rfl ?_
    obtain rfl := Option.some.inj h
    exact am_ireturn dX4_unlike_34 rfl rfl hp
theorem c_X4_unlike {K : am_K} {d : Nat} {M : am_M} {x1 : Int32} {x2 : Int32} {y : Int32 × am_M} (h : f_X4_unlike M x1 x2 = some y) : am_Met K (d + 4) m_X4_unlike [.inr (.inr (4, 0, 0)), .inl x1, .inl x2] M (fun q N => q = some (.inl y.1) ∧ N = y.2) :=
  am_Met_of cb_X4_unlike (Nat.le_of_ble_eq_true rfl) (w_X4_unlike h ⟨rfl, rfl⟩)
