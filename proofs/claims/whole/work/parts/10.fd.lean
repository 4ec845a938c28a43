def f_X4_sayingOnce (M : am_M) (x1 : Int32) : Option (Int32 × am_M) :=
  (f_X0_countRows M).bind (fun r2 => am_let r2.1 (fun v3 => (f_X0_closeAhead r2.2 x1).bind (fun r5 => (f_X0_countRows r5).bind (fun r7 => some (v3 - r7.1, r7.2)))))
set_option maxHeartbeats 4000000 in
theorem w_X4_sayingOnce {K : am_K} {d : Nat} {post : Option am_V → am_M → Prop} {M : am_M} {x1 : Int32} {y : Int32 × am_M} (h : f_X4_sayingOnce M x1 = some y) (hp : post (some (.inl y.1)) y.2) : am_W K (d + 3) m_X4_sayingOnce 0 [(0, .inr (.inr (4, 0, 0))), (1, .inl x1)] [] M post := by
  unfold f_X4_sayingOnce at h
  refine am_aload_n dX4_sayingOnce_0 rfl ?_
  refine am_getR (o' := 0) dX4_sayingOnce_1 fl_RX4_25 sh_4 rfl rfl hk_4 ?_
  obtain ⟨r2, c1, h⟩ := am_bnd h
  refine am_callVi (as := []) dX4_sayingOnce_4 cv_RX4_206 cb_X0_countRows sh_0 rfl hk_0 rfl rfl (Nat.le_of_ble_eq_true rfl) (c_X0_countRows c1) ?_
  obtain ⟨v3, ev3, h⟩ := am_letE h
  refine am_topI ev3 ?_
  refine am_istore_n (ls' := [(0, .inr (.inr (4, 0, 0))), (1, .inl x1), (2, .inl v3)]) dX4_sayingOnce_7 (Nat.le_of_ble_eq_true rfl) rfl ?_
  refine am_aload_n dX4_sayingOnce_8 rfl ?_
  refine am_getR (o' := 0) dX4_sayingOnce_9 fl_RX4_25 sh_4 rfl rfl hk_4 ?_
  refine am_iload_n dX4_sayingOnce_12 rfl ?_
  obtain ⟨r5, c4, h⟩ := am_bnd h
  refine am_callVv (as := [.inl x1]) dX4_sayingOnce_13 cv_RX4_346 cb_X0_closeAhead sh_0 rfl hk_0 rfl rfl (Nat.le_of_ble_eq_true rfl) (c_X0_closeAhead c4) ?_
  refine am_iload_n dX4_sayingOnce_16 rfl ?_
  refine am_aload_n dX4_sayingOnce_17 rfl ?_
  refine am_getR (o' := 0) dX4_sayingOnce_18 fl_RX4_25 sh_4 rfl rfl hk_4 ?_
  obtain ⟨r7, c6, h⟩ := am_bnd h
  refine am_callVi (as := []) dX4_sayingOnce_21 cv_RX4_206 cb_X0_countRows sh_0 rfl hk_0 rfl rfl (Nat.le_of_ble_eq_true rfl) (c_X0_countRows c6) ?_
  refine am_isub dX4_sayingOnce_24 ?_
  obtain rfl := Option.some.inj h
  exact am_ireturn dX4_sayingOnce_25 rfl rfl hp
theorem c_X4_sayingOnce {K : am_K} {d : Nat} {M : am_M} {x1 : Int32} {y : Int32 × am_M} (h : f_X4_sayingOnce M x1 = some y) : am_Met K (d + 3) m_X4_sayingOnce [.inr (.inr (4, 0, 0)), .inl x1] M (fun q N => q = some (.inl y.1) ∧ N = y.2) :=
  am_Met_of cb_X4_sayingOnce (Nat.le_of_ble_eq_true rfl) (w_X4_sayingOnce h ⟨rfl, rfl⟩)
def f_X4_saying (M : am_M) (x1 : Int32) (x2 : Int32) : Option (Int32 × am_M) :=
  ((if x1 = (1 : Int32) then (f_X0_layShaken M 0).bind (fun r5 => some r5) else (if x1 = (6 : Int32) then (f_X0_layShaken M 0).bind (fun r9 => some r9) else (f_X0_layHeaps M 0 205 0 0 4).bind (fun r7 => some r7))) : Option (am_M)).bind (fun z1 => (if x1 = (3 : Int32) then (f_X0_keepAheadByTwos z1 x2).bind (fun r14 => (f_X0_countRows r14).bind (fun r16 => some (r16.1, r16.2))) else if x1 = (4 : Int32) then (f_X0_keepAheadFromBehind z1 x2).bind (fun r19 => (f_X0_countRows r19).bind (fun r21 => some (r21.1, r21.2))) else if x1 = (5 : Int32) then (f_X0_keepAheadUntilSure z1 x2).bind (fun r24 => (f_X0_countRows r24).bind (fun r26 => some (r26.1, r26.2))) else if x1 = (6 : Int32) then (f_X4_sayingOnce z1 x2).bind (fun r29 => some (r29.1, r29.2)) else (f_X0_keepAhead z1 x2 (1 : Int32) (z1.1 0 0 0 0)).bind (fun r31 => (f_X0_countRows r31).bind (fun r33 => some (r33.1, r33.2)))))
set_option maxHeartbeats 4000000 in
theorem w_X4_saying {K : am_K} {d : Nat} {post : Option am_V → am_M → Prop} {M : am_M} {x1 : Int32} {x2 : Int32} {y : Int32 × am_M} (h : f_X4_saying M x1 x2 = some y) (hp : post (some (.inl y.1)) y.2) : am_W K (d + 4) m_X4_saying 0 [(0, .inr (.inr (4, 0, 0))), (1, .inl x1), (2, .inl x2)] [] M post := by
  unfold f_X4_saying at h
  refine am_iload_n dX4_saying_0 rfl ?_
  refine am_iconst dX4_saying_1 ic_1 ?_
  obtain ⟨z1, h2, h⟩ := am_bnd h
  have KK3 : am_W K (d + 4) m_X4_saying 43 [(0, .inr (.inr (4, 0, 0))), (1, .inl x1), (2, .inl x2)] [] z1 post := by
    refine am_iload_n dX4_saying_43 rfl ?_
    by_cases b12 : x1 = (3 : Int32)
    · replace h := am_ifT b12 h
      skip
      refine am_swIn 76 dX4_saying_44 (by rw [b12]; decide) (by rw [b12]; decide) (by rw [b12]; rfl) rfl ?_
      refine am_aload_n dX4_saying_76 rfl ?_
      refine am_getR (o' := 0) dX4_saying_77 fl_RX4_25 sh_4 rfl rfl hk_4 ?_
      refine am_iload_n dX4_saying_80 rfl ?_
      obtain ⟨r14, c13, h⟩ := am_bnd h
      refine am_callVv (as := [.inl x2]) dX4_saying_81 cv_RX4_330 cb_X0_keepAheadByTwos sh_0 rfl hk_0 rfl rfl (Nat.le_of_ble_eq_true rfl) (c_X0_keepAheadByTwos c13) ?_
      refine am_goto 131 dX4_saying_84 rfl ?_
      refine am_aload_n dX4_saying_131 rfl ?_
      refine am_getR (o' := 0) dX4_saying_132 fl_RX4_25 sh_4 rfl rfl hk_4 ?_
      obtain ⟨r16, c15, h⟩ := am_bnd h
      refine am_callVi (as := []) dX4_saying_135 cv_RX4_206 cb_X0_countRows sh_0 rfl hk_0 rfl rfl (Nat.le_of_ble_eq_true rfl) (c_X0_countRows c15) ?_
      obtain rfl := Option.some.inj h
      exact am_ireturn dX4_saying_138 rfl rfl hp
    replace h := am_ifF b12 h
    by_cases b17 : x1 = (4 : Int32)
    · replace h := am_ifT b17 h
      skip
      refine am_swIn 87 dX4_saying_44 (by rw [b17]; decide) (by rw [b17]; decide) (by rw [b17]; rfl) rfl ?_
      refine am_aload_n dX4_saying_87 rfl ?_
      refine am_getR (o' := 0) dX4_saying_88 fl_RX4_25 sh_4 rfl rfl hk_4 ?_
      refine am_iload_n dX4_saying_91 rfl ?_
      obtain ⟨r19, c18, h⟩ := am_bnd h
      refine am_callVv (as := [.inl x2]) dX4_saying_92 cv_RX4_333 cb_X0_keepAheadFromBehind sh_0 rfl hk_0 rfl rfl (Nat.le_of_ble_eq_true rfl) (c_X0_keepAheadFromBehind c18) ?_
      refine am_goto 131 dX4_saying_95 rfl ?_
      refine am_aload_n dX4_saying_131 rfl ?_
      refine am_getR (o' := 0) dX4_saying_132 fl_RX4_25 sh_4 rfl rfl hk_4 ?_
      obtain ⟨r21, c20, h⟩ := am_bnd h
      refine am_callVi (as := []) dX4_saying_135 cv_RX4_206 cb_X0_countRows sh_0 rfl hk_0 rfl rfl (Nat.le_of_ble_eq_true rfl) (c_X0_countRows c20) ?_
      obtain rfl := Option.some.inj h
      exact am_ireturn dX4_saying_138 rfl rfl hp
    replace h := am_ifF b17 h
    by_cases b22 : x1 = (5 : Int32)
    · replace h := am_ifT b22 h
      skip
      refine am_swIn 98 dX4_saying_44 (by rw [b22]; decide) (by rw [b22]; decide) (by rw [b22]; rfl) rfl ?_
      refine am_aload_n dX4_saying_98 rfl ?_
      refine am_getR (o' := 0) dX4_saying_99 fl_RX4_25 sh_4 rfl rfl hk_4 ?_
      refine am_iload_n dX4_saying_102 rfl ?_
      obtain ⟨r24, c23, h⟩ := am_bnd h
      refine am_callVv (as := [.inl x2]) dX4_saying_103 cv_RX4_336 cb_X0_keepAheadUntilSure sh_0 rfl hk_0 rfl rfl (Nat.le_of_ble_eq_true rfl) (c_X0_keepAheadUntilSure c23) ?_
      refine am_goto 131 dX4_saying_106 rfl ?_
      refine am_aload_n dX4_saying_131 rfl ?_
      refine am_getR (o' := 0) dX4_saying_132 fl_RX4_25 sh_4 rfl rfl hk_4 ?_
      obtain ⟨r26, c25, h⟩ := am_bnd h
      refine am_callVi (as := []) dX4_saying_135 cv_RX4_206 cb_X0_countRows sh_0 rfl hk_0 rfl rfl (Nat.le_of_ble_eq_true rfl) (c_X0_countRows c25) ?_
      obtain rfl := Option.some.inj h
      exact am_ireturn dX4_saying_138 rfl rfl hp
    replace h := am_ifF b22 h
    by_cases b27 : x1 = (6 : Int32)
    · replace h := am_ifT b27 h
      skip
      refine am_swIn 109 dX4_saying_44 (by rw [b27]; decide) (by rw [b27]; decide) (by rw [b27]; rfl) rfl ?_
      refine am_aload_n dX4_saying_109 rfl ?_
      refine am_iload_n dX4_saying_110 rfl ?_
      obtain ⟨r29, c28, h⟩ := am_bnd h
      refine am_callVi (as := [.inl x2]) dX4_saying_111 cv_RX4_339 cb_X4_sayingOnce sh_4 rfl hk_4 rfl rfl (Nat.le_of_ble_eq_true rfl) (c_X4_sayingOnce c28) ?_
      obtain rfl := Option.some.inj h
      exact am_ireturn dX4_saying_114 rfl rfl hp
    replace h := am_ifF b27 h
    have nb12 : ¬ (x1).toInt = 3 := am_neI b12
    have nb17 : ¬ (x1).toInt = 4 := am_neI b17
    have nb22 : ¬ (x1).toInt = 5 := am_neI b22
    have nb27 : ¬ (x1).toInt = 6 := am_neI b27
    refine am_swOut 115 dX4_saying_44 (by omega) rfl ?_
    refine am_aload_n dX4_saying_115 rfl ?_
    refine am_getR (o' := 0) dX4_saying_116 fl_RX4_25 sh_4 rfl rfl hk_4 ?_
    refine am_iload_n dX4_saying_119 rfl ?_
    refine am_iconst dX4_saying_120 ic_1 ?_
    refine am_aload_n dX4_saying_121 rfl ?_
    refine am_getR (o' := 0) dX4_saying_122 fl_RX4_25 sh_4 rfl rfl hk_4 ?_
    refine am_getI dX4_saying_125 fl_RX4_215 sh_0 rfl hk_0 ?_
    obtain ⟨r31, c30, h⟩ := am_bnd h
    refine am_callVv (as := [.inl x2, .inl (1 : Int32), .inl (z1.1 0 0 0 0)]) dX4_saying_128 cv_RX4_342 cb_X0_keepAhead sh_0 rfl hk_0 rfl rfl (Nat.le_of_ble_eq_true rfl) (c_X0_keepAhead c30) ?_
    refine am_aload_n dX4_saying_131 rfl ?_
    refine am_getR (o' := 0) dX4_saying_132 fl_RX4_25 sh_4 rfl rfl hk_4 ?_
    obtain ⟨r33, c32, h⟩ := am_bnd h
    refine am_callVi (as := []) dX4_saying_135 cv_RX4_206 cb_X0_countRows sh_0 rfl hk_0 rfl rfl (Nat.le_of_ble_eq_true rfl) (c_X0_countRows c32) ?_
    obtain rfl := Option.some.inj h
    exact am_ireturn dX4_saying_138 rfl rfl hp
  clear h
  refine am_icmp_eq 11 dX4_saying_2 rfl (fun b11 => ?_) (fun b11 => ?_)
  · replace h2 := am_ifT b11 h2
    refine am_aload_n dX4_saying_11 rfl ?_
    refine am_getR (o' := 0) dX4_saying_12 fl_RX4_25 sh_4 rfl rfl hk_4 ?_
    refine am_aload_n dX4_saying_15 rfl ?_
    refine am_getR (o' := 0) dX4_saying_16 fl_RX4_12 sh_4 rfl rfl hk_4 ?_
    obtain ⟨r5, c4, h2⟩ := am_bnd h2
    refine am_callVv (as := [.inr (.inr (1, 0, 0))]) dX4_saying_19 cv_RX4_327 cb_X0_layShaken sh_0 rfl hk_0 rfl rfl (Nat.le_of_ble_eq_true rfl) (c_X0_layShaken c4) ?_
    refine am_goto 43 dX4_saying_22 rfl ?_
    obtain rfl := Option.some.inj h2
    exact am_drop [0, 1, 2] rfl KK3
  · replace h2 := am_ifF b11 h2
    refine am_iload_n dX4_saying_5 rfl ?_
    refine am_bipush dX4_saying_6 bp_6 ?_
    refine am_icmp_ne 25 dX4_saying_8 rfl (fun b10 => ?_) (fun b10 => ?_)
    · replace h2 := am_ifF b10 h2
      refine am_aload_n dX4_saying_25 rfl ?_
      refine am_getR (o' := 0) dX4_saying_26 fl_RX4_25 sh_4 rfl rfl hk_4 ?_
      refine am_aload_n dX4_saying_29 rfl ?_
      refine am_getR (o' := 0) dX4_saying_30 fl_RX4_12 sh_4 rfl rfl hk_4 ?_
      refine am_aload_n dX4_saying_33 rfl ?_
      refine am_getR (o' := 0) dX4_saying_34 fl_RX4_12 sh_4 rfl rfl hk_4 ?_
      refine am_getR (o' := 0) dX4_saying_37 fl_RX4_193 sh_1 rfl rfl hk_1 ?_
      obtain ⟨r7, c6, h2⟩ := am_bnd h2
      refine am_callVv (as := [.inr (.inr (1, 0, 0)), .inr (.inr (205, 0, 0))]) dX4_saying_40 cv_RX4_196 cb_X0_layHeaps sh_0 rfl hk_0 rfl rfl (Nat.le_of_ble_eq_true rfl) (c_X0_layHeaps sh_205 hk_205 c6) ?_
      obtain rfl := Option.some.inj h2
      exact am_drop [0, 1, 2] rfl KK3
    · replace h2 := am_ifT b10 h2
      refine am_aload_n dX4_saying_11 rfl ?_
      refine am_getR (o' := 0) dX4_saying_12 fl_RX4_25 sh_4 rfl rfl hk_4 ?_
      refine am_aload_n dX4_saying_15 rfl ?_
      refine am_getR (o' := 0) dX4_saying_16 fl_RX4_12 sh_4 rfl rfl hk_4 ?_
      obtain ⟨r9, c8, h2⟩ := am_bnd h2
      refine am_callVv (as := [.inr (.inr (1, 0, 0))]) dX4_saying_19 cv_RX4_327 cb_X0_layShaken sh_0 rfl hk_0 rfl rfl (Nat.le_of_ble_eq_true rfl) (c_X0_layShaken c8) ?_
      refine am_goto 43 dX4_saying_22 rfl ?_
      obtain rfl := Option.some.inj h2
      exact am_drop [0, 1, 2] rfl KK3
theorem c_X4_saying {K : am_K} {d : Nat} {M : am_M} {x1 : Int32} {x2 : Int32} {y : Int32 × am_M} (h : f_X4_saying M x1 x2 = some y) : am_Met K (d + 4) m_X4_saying [.inr (.inr (4, 0, 0)), .inl x1, .inl x2] M (fun q N => q = some (.inl y.1) ∧ N = y.2) :=
  am_Met_of cb_X4_saying (Nat.le_of_ble_eq_true rfl) (w_X4_saying h ⟨rfl, rfl⟩)
def f_X4_says (M : am_M) (x1 : Int32) (x2 : Int32) : Option (Int32 × am_M) :=
  (f_X4_isShelf M x1).bind (fun r2 => (if r2 = 0 then (f_X4_refuse M (-2 : Int32)).bind (fun r4 => some (r4.1, r4.2)) else (f_X4_isWithin M x2 (6 : Int32)).bind (fun r6 => (if r6 = 0 then (f_X4_refuse M (-2 : Int32)).bind (fun r31 => some (r31.1, r31.2)) else if am_inb x1 8 = true then (f_X2_isEmpty M x1.toNatClampNeg).bind (fun r9 => (if r9 = 0 then (f_X2_isDrawing M x1.toNatClampNeg).bind (fun r11 => (if r11 = 0 then (f_X4_refuse M (-3 : Int32)).bind (fun r13 => some (r13.1, r13.2)) else (f_X2_kind M x1.toNatClampNeg).bind (fun r15 => (f_X4_isUnder M r15 x2).bind (fun r17 => (if r17 = 0 then (f_X4_refuse M (-3 : Int32)).bind (fun r24 => some (r24.1, r24.2)) else (if x2 = 0 then some ((M.1 2 x1.toNatClampNeg 0 2), M) else (f_X2_kind M x1.toNatClampNeg).bind (fun r19 => (f_X4_saying M r19 (M.1 2 x1.toNatClampNeg 0 2)).bind (fun r21 => some (r21.1, r21.2))))))))) else (f_X4_refuse M (-4 : Int32)).bind (fun r28 => some (r28.1, r28.2)))) else none))))
set_option maxHeartbeats 4000000 in
theorem w_X4_says {K : am_K} {d : Nat} {post : Option am_V → am_M → Prop} {M : am_M} {x1 : Int32} {x2 : Int32} {y : Int32 × am_M} (h : f_X4_says M x1 x2 = some y) (hp : post (some (.inl y.1)) y.2) : am_W K (d + 5) m_X4_says 0 [(0, .inr (.inr (4, 0, 0))), (1, .inl x1), (2, .inl x2)] [] M post := by
  unfold f_X4_says at h
  refine am_iload_n dX4_says_0 rfl ?_
  obtain ⟨r2, c1, h⟩ := am_bnd h
  refine am_callSi (as := [.inl x1]) dX4_says_1 cs_RX4_50 cb_X4_isShelf rfl rfl (Nat.le_of_ble_eq_true rfl) (c_X4_isShelf c1) ?_
  refine am_if_eq 16 dX4_says_4 rfl (fun b33 => ?_) (fun b33 => ?_)
  · replace h := am_ifT b33 h
    refine am_aload_n dX4_says_16 rfl ?_
    refine am_bipush dX4_says_17 bp_m2 ?_
    obtain ⟨r4, c3, h⟩ := am_bnd h
    refine am_callVi (as := [.inl (-2 : Int32)]) dX4_says_19 cv_RX4_58 cb_X4_refuse sh_4 rfl hk_4 rfl rfl (Nat.le_of_ble_eq_true rfl) (c_X4_refuse c3) ?_
    obtain rfl := Option.some.inj h
    exact am_ireturn dX4_says_22 rfl rfl hp
  · replace h := am_ifF b33 h
    refine am_iload_n dX4_says_7 rfl ?_
    refine am_bipush dX4_says_8 bp_6 ?_
    obtain ⟨r6, c5, h⟩ := am_bnd h
    refine am_callSi (as := [.inl x2, .inl (6 : Int32)]) dX4_says_10 cs_RX4_54 cb_X4_isWithin rfl rfl (Nat.le_of_ble_eq_true rfl) (c_X4_isWithin c5) ?_
    refine am_if_ne 23 dX4_says_13 rfl (fun b32 => ?_) (fun b32 => ?_)
    · replace h := am_ifF b32 h
      refine am_aload_n dX4_says_23 rfl ?_
      refine am_getR (o' := 0) dX4_says_24 fl_RX4_38 sh_4 rfl rfl hk_4 ?_
      refine am_iload_n dX4_says_27 rfl ?_
      obtain ⟨g7, h⟩ := am_grd h
      refine am_aaload dX4_says_28 sh_505 rfl rfl hk_505 (am_inbE g7) ?_
      refine am_top (w := .inr (.inr (2, x1.toNatClampNeg, 0))) rfl ?_
      refine am_astore_n (ls' := [(0, .inr (.inr (4, 0, 0))), (1, .inl x1), (2, .inl x2), (3, .inr (.inr (2, x1.toNatClampNeg, 0)))]) dX4_says_29 (Nat.le_of_ble_eq_true rfl) rfl ?_
      refine am_aload_n dX4_says_30 rfl ?_
      obtain ⟨r9, c8, h⟩ := am_bnd h
      refine am_callVi (as := []) dX4_says_31 cv_RX4_101 cb_X2_isEmpty sh_2 rfl hk_2 rfl rfl (Nat.le_of_ble_eq_true rfl) (c_X2_isEmpty c8) ?_
      refine am_if_eq 44 dX4_says_34 rfl (fun b29 => ?_) (fun b29 => ?_)
      · replace h := am_ifT b29 h
        refine am_aload_n dX4_says_44 rfl ?_
        obtain ⟨r11, c10, h⟩ := am_bnd h
        refine am_callVi (as := []) dX4_says_45 cv_RX4_104 cb_X2_isDrawing sh_2 rfl hk_2 rfl rfl (Nat.le_of_ble_eq_true rfl) (c_X2_isDrawing c10) ?_
        refine am_if_eq 62 dX4_says_48 rfl (fun b26 => ?_) (fun b26 => ?_)
        · replace h := am_ifT b26 h
          refine am_aload_n dX4_says_62 rfl ?_
          refine am_bipush dX4_says_63 bp_m3 ?_
          obtain ⟨r13, c12, h⟩ := am_bnd h
          refine am_callVi (as := [.inl (-3 : Int32)]) dX4_says_65 cv_RX4_58 cb_X4_refuse sh_4 rfl hk_4 rfl rfl (Nat.le_of_ble_eq_true rfl) (c_X4_refuse c12) ?_
          obtain rfl := Option.some.inj h
          exact am_ireturn dX4_says_68 rfl rfl hp
        · replace h := am_ifF b26 h
          refine am_aload_n dX4_says_51 rfl ?_
          obtain ⟨r15, c14, h⟩ := am_bnd h
          refine am_callVi (as := []) dX4_says_52 cv_RX4_107 cb_X2_kind sh_2 rfl hk_2 rfl rfl (Nat.le_of_ble_eq_true rfl) (c_X2_kind c14) ?_
          refine am_iload_n dX4_says_55 rfl ?_
          obtain ⟨r17, c16, h⟩ := am_bnd h
          refine am_callSi (as := [.inl r15, .inl x2]) dX4_says_56 cs_RX4_111 cb_X4_isUnder rfl rfl (Nat.le_of_ble_eq_true rfl) (c_X4_isUnder c16) ?_
          refine am_if_ne 69 dX4_says_59 rfl (fun b25 => ?_) (fun b25 => ?_)
          · replace h := am_ifF b25 h
            refine am_iload_n dX4_says_69 rfl ?_
            refine am_if_ne 80 dX4_says_70 rfl (fun b22 => ?_) (fun b22 => ?_)
            · replace h := am_ifF b22 h
              refine am_aload_n dX4_says_80 rfl ?_
              refine am_aload_n dX4_says_81 rfl ?_
              obtain ⟨r19, c18, h⟩ := am_bnd h
              refine am_callVi (as := []) dX4_says_82 cv_RX4_107 cb_X2_kind sh_2 rfl hk_2 rfl rfl (Nat.le_of_ble_eq_true rfl) (c_X2_kind c18) ?_
              refine am_aload_n dX4_says_85 rfl ?_
              refine am_getI dX4_says_86 fl_RX4_114 sh_2 rfl hk_2 ?_
              obtain ⟨r21, c20, h⟩ := am_bnd h
              refine am_callVi (as := [.inl r19, .inl (M.1 2 x1.toNatClampNeg 0 2)]) dX4_says_89 cv_RX4_117 cb_X4_saying sh_4 rfl hk_4 rfl rfl (Nat.le_of_ble_eq_true rfl) (c_X4_saying c20) ?_
              obtain rfl := Option.some.inj h
              exact am_ireturn dX4_says_92 rfl rfl hp
            · replace h := am_ifT b22 h
              refine am_aload_n dX4_says_73 rfl ?_
              refine am_getI dX4_says_74 fl_RX4_114 sh_2 rfl hk_2 ?_
              refine am_goto 92 dX4_says_77 rfl ?_
              obtain rfl := Option.some.inj h
              exact am_ireturn dX4_says_92 rfl rfl hp
          · replace h := am_ifT b25 h
            refine am_aload_n dX4_says_62 rfl ?_
            refine am_bipush dX4_says_63 bp_m3 ?_
            obtain ⟨r24, c23, h⟩ := am_bnd h
            refine am_callVi (as := [.inl (-3 : Int32)]) dX4_says_65 cv_RX4_58 cb_X4_refuse sh_4 rfl hk_4 rfl rfl (Nat.le_of_ble_eq_true rfl) (c_X4_refuse c23) ?_
            obtain rfl := Option.some.inj h
            exact am_ireturn dX4_says_68 rfl rfl hp
      · replace h := am_ifF b29 h
        refine am_aload_n dX4_says_37 rfl ?_
        refine am_bipush dX4_says_38 bp_m4 ?_
        obtain ⟨r28, c27, h⟩ := am_bnd h
        refine am_callVi (as := [.inl (-4 : Int32)]) dX4_says_40 cv_RX4_58 cb_X4_refuse sh_4 rfl hk_4 rfl rfl (Nat.le_of_ble_eq_true rfl) (c_X4_refuse c27) ?_
        obtain rfl := Option.some.inj h
        exact am_ireturn dX4_says_43 rfl rfl hp
    · replace h := am_ifT b32 h
      refine am_aload_n dX4_says_16 rfl ?_
      refine am_bipush dX4_says_17 bp_m2 ?_
      obtain ⟨r31, c30, h⟩ := am_bnd h
      refine am_callVi (as := [.inl (-2 : Int32)]) dX4_says_19 cv_RX4_58 cb_X4_refuse sh_4 rfl hk_4 rfl rfl (Nat.le_of_ble_eq_true rfl) (c_X4_refuse c30) ?_
      obtain rfl := Option.some.inj h
      exact am_ireturn dX4_says_22 rfl rfl hp
theorem c_X4_says {K : am_K} {d : Nat} {M : am_M} {x1 : Int32} {x2 : Int32} {y : Int32 × am_M} (h : f_X4_says M x1 x2 = some y) : am_Met K (d + 5) m_X4_says [.inr (.inr (4, 0, 0)), .inl x1, .inl x2] M (fun q N => q = some (.inl y.1) ∧ N = y.2) :=
  am_Met_of cb_X4_says (Nat.le_of_ble_eq_true rfl) (w_X4_says h ⟨rfl, rfl⟩)
def l_X4_head_6  : Nat → Int32 → Int32 → Int32 → am_M → Option (Int32 × am_M)
  | 0, _, _, _, _ => none
  | n + 1, a1, a2, a3, M => (if (8 : Int32) ≤ a3 then some (a1, M) else if am_inb a3 8 = true then (f_X2_isDrawing M a3.toNatClampNeg).bind (fun r3 => ((if r3 = 0 then some (a1, a2, M) else if am_inb a3 8 = true then (f_X2_kind M a3.toNatClampNeg).bind (fun r9 => if am_inb a3 8 = true then (f_X4_saying M r9 (M.1 2 a3.toNatClampNeg 0 2)).bind (fun r12 => am_let r12.1 (fun v13 => (if a1 = (-1 : Int32) then some (a3, v13, r12.2) else (if v13 ≤ a2 then some (a1, a2, r12.2) else some (a3, v13, r12.2))))) else none) else none) : Option (Int32 × Int32 × am_M)).bind (fun z4 => am_let (a3 + (1 : Int32)) (fun v17 => l_X4_head_6  n z4.1 z4.2.1 v17 z4.2.2))) else none)
set_option maxHeartbeats 4000000 in
theorem wl_X4_head_6 {K : am_K} {d : Nat} {post : Option am_V → am_M → Prop}  : ∀ (n : Nat) (a1 : Int32) (a2 : Int32) (a3 : Int32) (M : am_M) (x : Int32 × am_M), l_X4_head_6  n a1 a2 a3 M = some x → am_W K (d + 5) m_X4_head 70 [(0, .inr (.inr (4, 0, 0))), (1, .inl x.1)] [] x.2 post → am_W K (d + 5) m_X4_head 6 [(0, .inr (.inr (4, 0, 0))), (1, .inl a1), (2, .inl a2), (3, .inl a3)] [] M post := by
  intro n
  induction n with
  | zero => intro a1 a2 a3 M x h KX; cases h
  | succ n ih =>
    intro a1 a2 a3 M x h KX
    rw [l_X4_head_6] at h
    refine am_iload_n dX4_head_6 rfl ?_
    refine am_bipush dX4_head_7 bp_8 ?_
    refine am_icmp_ge 70 dX4_head_9 rfl (fun b18 => ?_) (fun b18 => ?_)
    · replace h := am_ifT b18 h
      obtain rfl := Option.some.inj h
      exact am_drop [0, 1] rfl KX
    · replace h := am_ifF b18 h
      refine am_aload_n dX4_head_12 rfl ?_
      refine am_getR (o' := 0) dX4_head_13 fl_RX4_38 sh_4 rfl rfl hk_4 ?_
      refine am_iload_n dX4_head_16 rfl ?_
      obtain ⟨g1, h⟩ := am_grd h
      refine am_aaload dX4_head_17 sh_505 rfl rfl hk_505 (am_inbE g1) ?_
      refine am_top (w := .inr (.inr (2, a3.toNatClampNeg, 0))) rfl ?_
      obtain ⟨r3, c2, h⟩ := am_bnd h
      refine am_callVi (as := []) dX4_head_18 cv_RX4_104 cb_X2_isDrawing sh_2 rfl hk_2 rfl rfl (Nat.le_of_ble_eq_true rfl) (c_X2_isDrawing c2) ?_
      obtain ⟨z4, h5, h⟩ := am_bnd h
      have KK6 : am_W K (d + 5) m_X4_head 64 [(0, .inr (.inr (4, 0, 0))), (1, .inl z4.1), (2, .inl z4.2.1), (3, .inl a3)] [] z4.2.2 post := by
        obtain ⟨v17, ev17, h⟩ := am_letE h
        refine am_iinc (ls' := [(0, .inr (.inr (4, 0, 0))), (1, .inl z4.1), (2, .inl z4.2.1), (3, .inl v17)]) dX4_head_64 rfl ((congrArg (fun z => a3 + z) ic_1).trans ev17.symm) (Nat.le_of_ble_eq_true rfl) rfl ?_
        refine am_goto 6 dX4_head_67 rfl ?_
        exact am_drop [0, 1, 2, 3] rfl (ih _ _ _ _ _ h KX)
      clear h
      refine am_if_eq 64 dX4_head_21 rfl (fun b16 => ?_) (fun b16 => ?_)
      · replace h5 := am_ifT b16 h5
        obtain rfl := Option.some.inj h5
        exact am_drop [0, 1, 2, 3] rfl KK6
      · replace h5 := am_ifF b16 h5
        refine am_aload_n dX4_head_24 rfl ?_
        refine am_aload_n dX4_head_25 rfl ?_
        refine am_getR (o' := 0) dX4_head_26 fl_RX4_38 sh_4 rfl rfl hk_4 ?_
        refine am_iload_n dX4_head_29 rfl ?_
        obtain ⟨g7, h5⟩ := am_grd h5
        refine am_aaload dX4_head_30 sh_505 rfl rfl hk_505 (am_inbE g7) ?_
        refine am_top (w := .inr (.inr (2, a3.toNatClampNeg, 0))) rfl ?_
        obtain ⟨r9, c8, h5⟩ := am_bnd h5
        refine am_callVi (as := []) dX4_head_31 cv_RX4_107 cb_X2_kind sh_2 rfl hk_2 rfl rfl (Nat.le_of_ble_eq_true rfl) (c_X2_kind c8) ?_
        refine am_aload_n dX4_head_34 rfl ?_
        refine am_getR (o' := 0) dX4_head_35 fl_RX4_38 sh_4 rfl rfl hk_4 ?_
        refine am_iload_n dX4_head_38 rfl ?_
        obtain ⟨g10, h5⟩ := am_grd h5
        refine am_aaload dX4_head_39 sh_505 rfl rfl hk_505 (am_inbE g10) ?_
        refine am_top (w := .inr (.inr (2, a3.toNatClampNeg, 0))) rfl ?_
        refine am_getI dX4_head_40 fl_RX4_114 sh_2 rfl hk_2 ?_
        obtain ⟨r12, c11, h5⟩ := am_bnd h5
        refine am_callVi (as := [.inl r9, .inl (M.1 2 a3.toNatClampNeg 0 2)]) dX4_head_43 cv_RX4_117 cb_X4_saying sh_4 rfl hk_4 rfl rfl (Nat.le_of_ble_eq_true rfl) (c_X4_saying c11) ?_
        obtain ⟨v13, ev13, h5⟩ := am_letE h5
        refine am_topI ev13 ?_
        refine am_istore (ls' := [(0, .inr (.inr (4, 0, 0))), (1, .inl a1), (2, .inl a2), (3, .inl a3), (4, .inl v13)]) dX4_head_46 (Nat.le_of_ble_eq_true rfl) rfl ?_
        refine am_iload_n dX4_head_48 rfl ?_
        refine am_iconst dX4_head_49 ic_m1 ?_
        refine am_icmp_eq 59 dX4_head_50 rfl (fun b15 => ?_) (fun b15 => ?_)
        · replace h5 := am_ifT b15 h5
          refine am_iload_n dX4_head_59 rfl ?_
          refine am_istore_n (ls' := [(0, .inr (.inr (4, 0, 0))), (1, .inl a3), (2, .inl a2), (3, .inl a3), (4, .inl v13)]) dX4_head_60 (Nat.le_of_ble_eq_true rfl) rfl ?_
          refine am_iload dX4_head_61 rfl ?_
          refine am_istore_n (ls' := [(0, .inr (.inr (4, 0, 0))), (1, .inl a3), (2, .inl v13), (3, .inl a3), (4, .inl v13)]) dX4_head_63 (Nat.le_of_ble_eq_true rfl) rfl ?_
          obtain rfl := Option.some.inj h5
          exact am_drop [0, 1, 2, 3] rfl KK6
        · replace h5 := am_ifF b15 h5
          refine am_iload dX4_head_53 rfl ?_
          refine am_iload_n dX4_head_55 rfl ?_
          refine am_icmp_le 64 dX4_head_56 rfl (fun b14 => ?_) (fun b14 => ?_)
          · replace h5 := am_ifT b14 h5
            obtain rfl := Option.some.inj h5
            exact am_drop [0, 1, 2, 3] rfl KK6
          · replace h5 := am_ifF b14 h5
            refine am_iload_n dX4_head_59 rfl ?_
            refine am_istore_n (ls' := [(0, .inr (.inr (4, 0, 0))), (1, .inl a3), (2, .inl a2), (3, .inl a3), (4, .inl v13)]) dX4_head_60 (Nat.le_of_ble_eq_true rfl) rfl ?_
            refine am_iload dX4_head_61 rfl ?_
            refine am_istore_n (ls' := [(0, .inr (.inr (4, 0, 0))), (1, .inl a3), (2, .inl v13), (3, .inl a3), (4, .inl v13)]) dX4_head_63 (Nat.le_of_ble_eq_true rfl) rfl ?_
            obtain rfl := Option.some.inj h5
            exact am_drop [0, 1, 2, 3] rfl KK6
def f_X4_head (M : am_M)  : Option (Int32 × am_M) :=
  (l_X4_head_6  1000 (-1 : Int32) (0 : Int32) (0 : Int32) M).bind (fun z19 => (if z19.1 = (-1 : Int32) then (f_X4_refuse z19.2 (-5 : Int32)).bind (fun r23 => some (r23.1, r23.2)) else some (z19.1, z19.2)))
set_option maxHeartbeats 4000000 in
theorem w_X4_head {K : am_K} {d : Nat} {post : Option am_V → am_M → Prop} {M : am_M}  {y : Int32 × am_M} (h : f_X4_head M  = some y) (hp : post (some (.inl y.1)) y.2) : am_W K (d + 5) m_X4_head 0 [(0, .inr (.inr (4, 0, 0)))] [] M post := by
  unfold f_X4_head at h
  refine am_iconst dX4_head_0 ic_m1 ?_
  refine am_istore_n (ls' := [(0, .inr (.inr (4, 0, 0))), (1, .inl (-1 : Int32))]) dX4_head_1 (Nat.le_of_ble_eq_true rfl) rfl ?_
  refine am_iconst dX4_head_2 ic_0 ?_
  refine am_istore_n (ls' := [(0, .inr (.inr (4, 0, 0))), (1, .inl (-1 : Int32)), (2, .inl (0 : Int32))]) dX4_head_3 (Nat.le_of_ble_eq_true rfl) rfl ?_
  refine am_iconst dX4_head_4 ic_0 ?_
  refine am_istore_n (ls' := [(0, .inr (.inr (4, 0, 0))), (1, .inl (-1 : Int32)), (2, .inl (0 : Int32)), (3, .inl (0 : Int32))]) dX4_head_5 (Nat.le_of_ble_eq_true rfl) rfl ?_
  obtain ⟨z19, h20, h⟩ := am_bnd h
  have KK21 : am_W K (d + 5) m_X4_head 70 [(0, .inr (.inr (4, 0, 0))), (1, .inl z19.1)] [] z19.2 post := by
    refine am_iload_n dX4_head_70 rfl ?_
    refine am_iconst dX4_head_71 ic_m1 ?_
    refine am_icmp_ne 84 dX4_head_72 rfl (fun b24 => ?_) (fun b24 => ?_)
    · replace h := am_ifF b24 h
      refine am_iload_n dX4_head_84 rfl ?_
      obtain rfl := Option.some.inj h
      exact am_ireturn dX4_head_85 rfl rfl hp
    · replace h := am_ifT b24 h
      refine am_aload_n dX4_head_75 rfl ?_
      refine am_bipush dX4_head_76 bp_m5 ?_
      obtain ⟨r23, c22, h⟩ := am_bnd h
      refine am_callVi (as := [.inl (-5 : Int32)]) dX4_head_78 cv_RX4_58 cb_X4_refuse sh_4 rfl hk_4 rfl rfl (Nat.le_of_ble_eq_true rfl) (c_X4_refuse c22) ?_
      refine am_goto 85 dX4_head_81 rfl ?_
      obtain rfl := Option.some.inj h
      exact am_ireturn dX4_head_85 rfl rfl hp
  exact am_drop [0, 1, 2, 3] rfl (wl_X4_head_6 _ _ _ _ _ _ h20 KK21)
theorem c_X4_head {K : am_K} {d : Nat} {M : am_M}  {y : Int32 × am_M} (h : f_X4_head M  = some y) : am_Met K (d + 5) m_X4_head [.inr (.inr (4, 0, 0))] M (fun q N => q = some (.inl y.1) ∧ N = y.2) :=
  am_Met_of cb_X4_head (Nat.le_of_ble_eq_true rfl) (w_X4_head h ⟨rfl, rfl⟩)
def f_X4_heap (M : am_M) (x1 : Int32) (x2 : Int32) : Option (Int32 × am_M) :=
  (f_X4_isWithin M x1 (9 : Int32)).bind (fun r2 => (if r2 = 0 then (f_X4_refuse M (-2 : Int32)).bind (fun r4 => some (r4.1, r4.2)) else (f_X4_isWithin M x2 (9 : Int32)).bind (fun r6 => (if r6 = 0 then (f_X4_refuse M (-2 : Int32)).bind (fun r8 => some (r8.1, r8.2)) else (if (x1 + x2) = 0 then (f_X4_refuse M (-2 : Int32)).bind (fun r23 => some (r23.1, r23.2)) else (if (M.1 1 0 0 6) ≤ 0 then (if (4 : Int32) ≤ (M.1 1 0 0 0) then (f_X4_refuse M (-6 : Int32)).bind (fun r10 => some (r10.1, r10.2)) else (f_X1_hasRoom M 0 (x1 + x2)).bind (fun r12 => (if r12 = 0 then (f_X4_refuse M (-6 : Int32)).bind (fun r16 => some (r16.1, r16.2)) else (f_X1_layIn M 0 x1 x2).bind (fun r14 => some (r14.1, r14.2))))) else (f_X4_refuse M (-5 : Int32)).bind (fun r20 => some (r20.1, r20.2))))))))
set_option maxHeartbeats 4000000 in
theorem w_X4_heap {K : am_K} {d : Nat} {post : Option am_V → am_M → Prop} {M : am_M} {x1 : Int32} {x2 : Int32} {y : Int32 × am_M} (h : f_X4_heap M x1 x2 = some y) (hp : post (some (.inl y.1)) y.2) : am_W K (d + 2) m_X4_heap 0 [(0, .inr (.inr (4, 0, 0))), (1, .inl x1), (2, .inl x2)] [] M post := by
  unfold f_X4_heap at h
  refine am_iload_n dX4_heap_0 rfl ?_
  refine am_bipush dX4_heap_1 bp_9 ?_
  obtain ⟨r2, c1, h⟩ := am_bnd h
  refine am_callSi (as := [.inl x1, .inl (9 : Int32)]) dX4_heap_3 cs_RX4_54 cb_X4_isWithin rfl rfl (Nat.le_of_ble_eq_true rfl) (c_X4_isWithin c1) ?_
  refine am_if_eq 24 dX4_heap_6 rfl (fun b26 => ?_) (fun b26 => ?_)
  · replace h := am_ifT b26 h
    refine am_aload_n dX4_heap_24 rfl ?_
    refine am_bipush dX4_heap_25 bp_m2 ?_
    obtain ⟨r4, c3, h⟩ := am_bnd h
    refine am_callVi (as := [.inl (-2 : Int32)]) dX4_heap_27 cv_RX4_58 cb_X4_refuse sh_4 rfl hk_4 rfl rfl (Nat.le_of_ble_eq_true rfl) (c_X4_refuse c3) ?_
    obtain rfl := Option.some.inj h
    exact am_ireturn dX4_heap_30 rfl rfl hp
  · replace h := am_ifF b26 h
    refine am_iload_n dX4_heap_9 rfl ?_
    refine am_bipush dX4_heap_10 bp_9 ?_
    obtain ⟨r6, c5, h⟩ := am_bnd h
    refine am_callSi (as := [.inl x2, .inl (9 : Int32)]) dX4_heap_12 cs_RX4_54 cb_X4_isWithin rfl rfl (Nat.le_of_ble_eq_true rfl) (c_X4_isWithin c5) ?_
    refine am_if_eq 24 dX4_heap_15 rfl (fun b25 => ?_) (fun b25 => ?_)
    · replace h := am_ifT b25 h
      refine am_aload_n dX4_heap_24 rfl ?_
      refine am_bipush dX4_heap_25 bp_m2 ?_
      obtain ⟨r8, c7, h⟩ := am_bnd h
      refine am_callVi (as := [.inl (-2 : Int32)]) dX4_heap_27 cv_RX4_58 cb_X4_refuse sh_4 rfl hk_4 rfl rfl (Nat.le_of_ble_eq_true rfl) (c_X4_refuse c7) ?_
      obtain rfl := Option.some.inj h
      exact am_ireturn dX4_heap_30 rfl rfl hp
    · replace h := am_ifF b25 h
      refine am_iload_n dX4_heap_18 rfl ?_
      refine am_iload_n dX4_heap_19 rfl ?_
      refine am_iadd dX4_heap_20 ?_
      refine am_if_ne 31 dX4_heap_21 rfl (fun b24 => ?_) (fun b24 => ?_)
      · replace h := am_ifF b24 h
        refine am_aload_n dX4_heap_31 rfl ?_
        refine am_getR (o' := 0) dX4_heap_32 fl_RX4_12 sh_4 rfl rfl hk_4 ?_
        refine am_getI dX4_heap_35 fl_RX4_120 sh_1 rfl hk_1 ?_
        refine am_if_le 48 dX4_heap_38 rfl (fun b21 => ?_) (fun b21 => ?_)
        · replace h := am_ifT b21 h
          refine am_aload_n dX4_heap_48 rfl ?_
          refine am_getR (o' := 0) dX4_heap_49 fl_RX4_12 sh_4 rfl rfl hk_4 ?_
          refine am_getI dX4_heap_52 fl_RX4_123 sh_1 rfl hk_1 ?_
          refine am_iconst dX4_heap_55 ic_4 ?_
          refine am_icmp_ge 72 dX4_heap_56 rfl (fun b18 => ?_) (fun b18 => ?_)
          · replace h := am_ifT b18 h
            refine am_aload_n dX4_heap_72 rfl ?_
            refine am_bipush dX4_heap_73 bp_m6 ?_
            obtain ⟨r10, c9, h⟩ := am_bnd h
            refine am_callVi (as := [.inl (-6 : Int32)]) dX4_heap_75 cv_RX4_58 cb_X4_refuse sh_4 rfl hk_4 rfl rfl (Nat.le_of_ble_eq_true rfl) (c_X4_refuse c9) ?_
            obtain rfl := Option.some.inj h
            exact am_ireturn dX4_heap_78 rfl rfl hp
          · replace h := am_ifF b18 h
            refine am_aload_n dX4_heap_59 rfl ?_
            refine am_getR (o' := 0) dX4_heap_60 fl_RX4_12 sh_4 rfl rfl hk_4 ?_
            refine am_iload_n dX4_heap_63 rfl ?_
            refine am_iload_n dX4_heap_64 rfl ?_
            refine am_iadd dX4_heap_65 ?_
            obtain ⟨r12, c11, h⟩ := am_bnd h
            refine am_callVi (as := [.inl (x1 + x2)]) dX4_heap_66 cv_RX4_126 cb_X1_hasRoom sh_1 rfl hk_1 rfl rfl (Nat.le_of_ble_eq_true rfl) (c_X1_hasRoom c11) ?_
            refine am_if_ne 79 dX4_heap_69 rfl (fun b17 => ?_) (fun b17 => ?_)
            · replace h := am_ifF b17 h
              refine am_aload_n dX4_heap_79 rfl ?_
              refine am_getR (o' := 0) dX4_heap_80 fl_RX4_12 sh_4 rfl rfl hk_4 ?_
              refine am_iload_n dX4_heap_83 rfl ?_
              refine am_iload_n dX4_heap_84 rfl ?_
              obtain ⟨r14, c13, h⟩ := am_bnd h
              refine am_callVi (as := [.inl x1, .inl x2]) dX4_heap_85 cv_RX4_129 cb_X1_layIn sh_1 rfl hk_1 rfl rfl (Nat.le_of_ble_eq_true rfl) (c_X1_layIn c13) ?_
              obtain rfl := Option.some.inj h
              exact am_ireturn dX4_heap_88 rfl rfl hp
            · replace h := am_ifT b17 h
              refine am_aload_n dX4_heap_72 rfl ?_
              refine am_bipush dX4_heap_73 bp_m6 ?_
              obtain ⟨r16, c15, h⟩ := am_bnd h
              refine am_callVi (as := [.inl (-6 : Int32)]) dX4_heap_75 cv_RX4_58 cb_X4_refuse sh_4 rfl hk_4 rfl rfl (Nat.le_of_ble_eq_true rfl) (c_X4_refuse c15) ?_
              obtain rfl := Option.some.inj h
              exact am_ireturn dX4_heap_78 rfl rfl hp
        · replace h := am_ifF b21 h
          refine am_aload_n dX4_heap_41 rfl ?_
          refine am_bipush dX4_heap_42 bp_m5 ?_
          obtain ⟨r20, c19, h⟩ := am_bnd h
          refine am_callVi (as := [.inl (-5 : Int32)]) dX4_heap_44 cv_RX4_58 cb_X4_refuse sh_4 rfl hk_4 rfl rfl (Nat.le_of_ble_eq_true rfl) (c_X4_refuse c19) ?_
          obtain rfl := Option.some.inj h
          exact am_ireturn dX4_heap_47 rfl rfl hp
      · replace h := am_ifT b24 h
        refine am_aload_n dX4_heap_24 rfl ?_
        refine am_bipush dX4_heap_25 bp_m2 ?_
        obtain ⟨r23, c22, h⟩ := am_bnd h
        refine am_callVi (as := [.inl (-2 : Int32)]) dX4_heap_27 cv_RX4_58 cb_X4_refuse sh_4 rfl hk_4 rfl rfl (Nat.le_of_ble_eq_true rfl) (c_X4_refuse c22) ?_
        obtain rfl := Option.some.inj h
        exact am_ireturn dX4_heap_30 rfl rfl hp
theorem c_X4_heap {K : am_K} {d : Nat} {M : am_M} {x1 : Int32} {x2 : Int32} {y : Int32 × am_M} (h : f_X4_heap M x1 x2 = some y) : am_Met K (d + 2) m_X4_heap [.inr (.inr (4, 0, 0)), .inl x1, .inl x2] M (fun q N => q = some (.inl y.1) ∧ N = y.2) :=
  am_Met_of cb_X4_heap (Nat.le_of_ble_eq_true rfl) (w_X4_heap h ⟨rfl, rfl⟩)
def f_X4_fact (M : am_M) (x1 : Int32) (x2 : Int32) (x3 : Int32) : Option (Int32 × am_M) :=
  (f_X4_isWithin M x1 (3 : Int32)).bind (fun r2 => (if r2 = 0 then (f_X4_refuse M (-2 : Int32)).bind (fun r4 => some (r4.1, r4.2)) else (f_X4_isWithin M x2 (24 : Int32)).bind (fun r6 => (if r6 = 0 then (f_X4_refuse M (-2 : Int32)).bind (fun r8 => some (r8.1, r8.2)) else (f_X4_isWithin M x3 (24 : Int32)).bind (fun r10 => (if r10 = 0 then (f_X4_refuse M (-2 : Int32)).bind (fun r17 => some (r17.1, r17.2)) else (if (M.1 1 0 0 9) < (4 : Int32) then (f_X1_remember M 0 x1 x2 x3).bind (fun r12 => some (r12.1, r12.2)) else (f_X4_refuse M (-6 : Int32)).bind (fun r14 => some (r14.1, r14.2)))))))))
set_option maxHeartbeats 4000000 in
theorem w_X4_fact {K : am_K} {d : Nat} {post : Option am_V → am_M → Prop} {M : am_M} {x1 : Int32} {x2 : Int32} {x3 : Int32} {y : Int32 × am_M} (h : f_X4_fact M x1 x2 x3 = some y) (hp : post (some (.inl y.1)) y.2) : am_W K (d + 2) m_X4_fact 0 [(0, .inr (.inr (4, 0, 0))), (1, .inl x1), (2, .inl x2), (3, .inl x3)] [] M post := by
  unfold f_X4_fact at h
  refine am_iload_n dX4_fact_0 rfl ?_
  refine am_iconst dX4_fact_1 ic_3 ?_
  obtain ⟨r2, c1, h⟩ := am_bnd h
  refine am_callSi (as := [.inl x1, .inl (3 : Int32)]) dX4_fact_2 cs_RX4_54 cb_X4_isWithin rfl rfl (Nat.le_of_ble_eq_true rfl) (c_X4_isWithin c1) ?_
  refine am_if_eq 26 dX4_fact_5 rfl (fun b20 => ?_) (fun b20 => ?_)
  · replace h := am_ifT b20 h
    refine am_aload_n dX4_fact_26 rfl ?_
    refine am_bipush dX4_fact_27 bp_m2 ?_
    obtain ⟨r4, c3, h⟩ := am_bnd h
    refine am_callVi (as := [.inl (-2 : Int32)]) dX4_fact_29 cv_RX4_58 cb_X4_refuse sh_4 rfl hk_4 rfl rfl (Nat.le_of_ble_eq_true rfl) (c_X4_refuse c3) ?_
    obtain rfl := Option.some.inj h
    exact am_ireturn dX4_fact_32 rfl rfl hp
  · replace h := am_ifF b20 h
    refine am_iload_n dX4_fact_8 rfl ?_
    refine am_bipush dX4_fact_9 bp_24 ?_
    obtain ⟨r6, c5, h⟩ := am_bnd h
    refine am_callSi (as := [.inl x2, .inl (24 : Int32)]) dX4_fact_11 cs_RX4_54 cb_X4_isWithin rfl rfl (Nat.le_of_ble_eq_true rfl) (c_X4_isWithin c5) ?_
    refine am_if_eq 26 dX4_fact_14 rfl (fun b19 => ?_) (fun b19 => ?_)
    · replace h := am_ifT b19 h
      refine am_aload_n dX4_fact_26 rfl ?_
      refine am_bipush dX4_fact_27 bp_m2 ?_
      obtain ⟨r8, c7, h⟩ := am_bnd h
      refine am_callVi (as := [.inl (-2 : Int32)]) dX4_fact_29 cv_RX4_58 cb_X4_refuse sh_4 rfl hk_4 rfl rfl (Nat.le_of_ble_eq_true rfl) (c_X4_refuse c7) ?_
      obtain rfl := Option.some.inj h
      exact am_ireturn dX4_fact_32 rfl rfl hp
    · replace h := am_ifF b19 h
      refine am_iload_n dX4_fact_17 rfl ?_
      refine am_bipush dX4_fact_18 bp_24 ?_
      obtain ⟨r10, c9, h⟩ := am_bnd h
      refine am_callSi (as := [.inl x3, .inl (24 : Int32)]) dX4_fact_20 cs_RX4_54 cb_X4_isWithin rfl rfl (Nat.le_of_ble_eq_true rfl) (c_X4_isWithin c9) ?_
      refine am_if_ne 33 dX4_fact_23 rfl (fun b18 => ?_) (fun b18 => ?_)
      · replace h := am_ifF b18 h
        refine am_aload_n dX4_fact_33 rfl ?_
        refine am_getR (o' := 0) dX4_fact_34 fl_RX4_12 sh_4 rfl rfl hk_4 ?_
        refine am_getI dX4_fact_37 fl_RX4_132 sh_1 rfl hk_1 ?_
        refine am_iconst dX4_fact_40 ic_4 ?_
        refine am_icmp_lt 51 dX4_fact_41 rfl (fun b15 => ?_) (fun b15 => ?_)
        · replace h := am_ifT b15 h
          refine am_aload_n dX4_fact_51 rfl ?_
          refine am_getR (o' := 0) dX4_fact_52 fl_RX4_12 sh_4 rfl rfl hk_4 ?_
          refine am_iload_n dX4_fact_55 rfl ?_
          refine am_iload_n dX4_fact_56 rfl ?_
          refine am_iload_n dX4_fact_57 rfl ?_
          obtain ⟨r12, c11, h⟩ := am_bnd h
          refine am_callVi (as := [.inl x1, .inl x2, .inl x3]) dX4_fact_58 cv_RX4_135 cb_X1_remember sh_1 rfl hk_1 rfl rfl (Nat.le_of_ble_eq_true rfl) (c_X1_remember c11) ?_
          obtain rfl := Option.some.inj h
          exact am_ireturn dX4_fact_61 rfl rfl hp
        · replace h := am_ifF b15 h
          refine am_aload_n dX4_fact_44 rfl ?_
          refine am_bipush dX4_fact_45 bp_m6 ?_
          obtain ⟨r14, c13, h⟩ := am_bnd h
          refine am_callVi (as := [.inl (-6 : Int32)]) dX4_fact_47 cv_RX4_58 cb_X4_refuse sh_4 rfl hk_4 rfl rfl (Nat.le_of_ble_eq_true rfl) (c_X4_refuse c13) ?_
          obtain rfl := Option.some.inj h
          exact am_ireturn dX4_fact_50 rfl rfl hp
      · replace h := am_ifT b18 h
        refine am_aload_n dX4_fact_26 rfl ?_
        refine am_bipush dX4_fact_27 bp_m2 ?_
        obtain ⟨r17, c16, h⟩ := am_bnd h
        refine am_callVi (as := [.inl (-2 : Int32)]) dX4_fact_29 cv_RX4_58 cb_X4_refuse sh_4 rfl hk_4 rfl rfl (Nat.le_of_ble_eq_true rfl) (c_X4_refuse c16) ?_
        obtain rfl := Option.some.inj h
        exact am_ireturn dX4_fact_32 rfl rfl hp
theorem c_X4_fact {K : am_K} {d : Nat} {M : am_M} {x1 : Int32} {x2 : Int32} {x3 : Int32} {y : Int32 × am_M} (h : f_X4_fact M x1 x2 x3 = some y) : am_Met K (d + 2) m_X4_fact [.inr (.inr (4, 0, 0)), .inl x1, .inl x2, .inl x3] M (fun q N => q = some (.inl y.1) ∧ N = y.2) :=
  am_Met_of cb_X4_fact (Nat.le_of_ble_eq_true rfl) (w_X4_fact h ⟨rfl, rfl⟩)
def f_X4_forget (M : am_M) (x1 : Int32) : Option (Int32 × am_M) :=
  (f_X4_isWithin M x1 ((M.1 1 0 0 9) - (1 : Int32))).bind (fun r2 => (if r2 = 0 then (f_X4_refuse M (-2 : Int32)).bind (fun r6 => some (r6.1, r6.2)) else (f_X1_dropFact M 0 x1).bind (fun r4 => some (r4.1, r4.2))))
set_option maxHeartbeats 4000000 in
theorem w_X4_forget {K : am_K} {d : Nat} {post : Option am_V → am_M → Prop} {M : am_M} {x1 : Int32} {y : Int32 × am_M} (h : f_X4_forget M x1 = some y) (hp : post (some (.inl y.1)) y.2) : am_W K (d + 2) m_X4_forget 0 [(0, .inr (.inr (4, 0, 0))), (1, .inl x1)] [] M post := by
  unfold f_X4_forget at h
  refine am_iload_n dX4_forget_0 rfl ?_
  refine am_aload_n dX4_forget_1 rfl ?_
  refine am_getR (o' := 0) dX4_forget_2 fl_RX4_12 sh_4 rfl rfl hk_4 ?_
  refine am_getI dX4_forget_5 fl_RX4_132 sh_1 rfl hk_1 ?_
  refine am_iconst dX4_forget_8 ic_1 ?_
  refine am_isub dX4_forget_9 ?_
  obtain ⟨r2, c1, h⟩ := am_bnd h
  refine am_callSi (as := [.inl x1, .inl ((M.1 1 0 0 9) - (1 : Int32))]) dX4_forget_10 cs_RX4_54 cb_X4_isWithin rfl rfl (Nat.le_of_ble_eq_true rfl) (c_X4_isWithin c1) ?_
  refine am_if_ne 23 dX4_forget_13 rfl (fun b7 => ?_) (fun b7 => ?_)
  · replace h := am_ifF b7 h
    refine am_aload_n dX4_forget_23 rfl ?_
    refine am_getR (o' := 0) dX4_forget_24 fl_RX4_12 sh_4 rfl rfl hk_4 ?_
    refine am_iload_n dX4_forget_27 rfl ?_
    obtain ⟨r4, c3, h⟩ := am_bnd h
    refine am_callVi (as := [.inl x1]) dX4_forget_28 cv_RX4_139 cb_X1_dropFact sh_1 rfl hk_1 rfl rfl (Nat.le_of_ble_eq_true rfl) (c_X1_dropFact c3) ?_
    obtain rfl := Option.some.inj h
    exact am_ireturn dX4_forget_31 rfl rfl hp
  · replace h := am_ifT b7 h
    refine am_aload_n dX4_forget_16 rfl ?_
    refine am_bipush dX4_forget_17 bp_m2 ?_
    obtain ⟨r6, c5, h⟩ := am_bnd h
    refine am_callVi (as := [.inl (-2 : Int32)]) dX4_forget_19 cv_RX4_58 cb_X4_refuse sh_4 rfl hk_4 rfl rfl (Nat.le_of_ble_eq_true rfl) (c_X4_refuse c5) ?_
    obtain rfl := Option.some.inj h
    exact am_ireturn dX4_forget_22 rfl rfl hp
theorem c_X4_forget {K : am_K} {d : Nat} {M : am_M} {x1 : Int32} {y : Int32 × am_M} (h : f_X4_forget M x1 = some y) : am_Met K (d + 2) m_X4_forget [.inr (.inr (4, 0, 0)), .inl x1] M (fun q N => q = some (.inl y.1) ∧ N = y.2) :=
  am_Met_of cb_X4_forget (Nat.le_of_ble_eq_true rfl) (w_X4_forget h ⟨rfl, rfl⟩)
def f_X4_swap (M : am_M) (x1 : Int32) (x2 : Int32) : Option (Int32 × am_M) :=
  (f_X4_isWithin M x1 ((M.1 1 0 0 0) - (1 : Int32))).bind (fun r2 => (if r2 = 0 then (f_X4_refuse M (-2 : Int32)).bind (fun r4 => some (r4.1, r4.2)) else (f_X4_isWithin M x2 ((M.1 1 0 0 0) - (1 : Int32))).bind (fun r6 => (if r6 = 0 then (f_X4_refuse M (-2 : Int32)).bind (fun r14 => some (r14.1, r14.2)) else (if (M.1 1 0 0 6) ≤ 0 then (f_X1_exchange M 0 x1 x2).bind (fun r8 => (if x1 = x2 then some ((0 : Int32), r8) else some ((1 : Int32), r8))) else (f_X4_refuse M (-5 : Int32)).bind (fun r11 => some (r11.1, r11.2)))))))
set_option maxHeartbeats 4000000 in
theorem w_X4_swap {K : am_K} {d : Nat} {post : Option am_V → am_M → Prop} {M : am_M} {x1 : Int32} {x2 : Int32} {y : Int32 × am_M} (h : f_X4_swap M x1 x2 = some y) (hp : post (some (.inl y.1)) y.2) : am_W K (d + 2) m_X4_swap 0 [(0, .inr (.inr (4, 0, 0))), (1, .inl x1), (2, .inl x2)] [] M post := by
  unfold f_X4_swap at h
  refine am_iload_n dX4_swap_0 rfl ?_
  refine am_aload_n dX4_swap_1 rfl ?_
  refine am_getR (o' := 0) dX4_swap_2 fl_RX4_12 sh_4 rfl rfl hk_4 ?_
  refine am_getI dX4_swap_5 fl_RX4_123 sh_1 rfl hk_1 ?_
  refine am_iconst dX4_swap_8 ic_1 ?_
  refine am_isub dX4_swap_9 ?_
  obtain ⟨r2, c1, h⟩ := am_bnd h
  refine am_callSi (as := [.inl x1, .inl ((M.1 1 0 0 0) - (1 : Int32))]) dX4_swap_10 cs_RX4_54 cb_X4_isWithin rfl rfl (Nat.le_of_ble_eq_true rfl) (c_X4_isWithin c1) ?_
  refine am_if_eq 32 dX4_swap_13 rfl (fun b16 => ?_) (fun b16 => ?_)
  · replace h := am_ifT b16 h
    refine am_aload_n dX4_swap_32 rfl ?_
    refine am_bipush dX4_swap_33 bp_m2 ?_
    obtain ⟨r4, c3, h⟩ := am_bnd h
    refine am_callVi (as := [.inl (-2 : Int32)]) dX4_swap_35 cv_RX4_58 cb_X4_refuse sh_4 rfl hk_4 rfl rfl (Nat.le_of_ble_eq_true rfl) (c_X4_refuse c3) ?_
    obtain rfl := Option.some.inj h
    exact am_ireturn dX4_swap_38 rfl rfl hp
  · replace h := am_ifF b16 h
    refine am_iload_n dX4_swap_16 rfl ?_
    refine am_aload_n dX4_swap_17 rfl ?_
    refine am_getR (o' := 0) dX4_swap_18 fl_RX4_12 sh_4 rfl rfl hk_4 ?_
    refine am_getI dX4_swap_21 fl_RX4_123 sh_1 rfl hk_1 ?_
    refine am_iconst dX4_swap_24 ic_1 ?_
    refine am_isub dX4_swap_25 ?_
    obtain ⟨r6, c5, h⟩ := am_bnd h
    refine am_callSi (as := [.inl x2, .inl ((M.1 1 0 0 0) - (1 : Int32))]) dX4_swap_26 cs_RX4_54 cb_X4_isWithin rfl rfl (Nat.le_of_ble_eq_true rfl) (c_X4_isWithin c5) ?_
    refine am_if_ne 39 dX4_swap_29 rfl (fun b15 => ?_) (fun b15 => ?_)
    · replace h := am_ifF b15 h
      refine am_aload_n dX4_swap_39 rfl ?_
      refine am_getR (o' := 0) dX4_swap_40 fl_RX4_12 sh_4 rfl rfl hk_4 ?_
      refine am_getI dX4_swap_43 fl_RX4_120 sh_1 rfl hk_1 ?_
      refine am_if_le 56 dX4_swap_46 rfl (fun b12 => ?_) (fun b12 => ?_)
      · replace h := am_ifT b12 h
        refine am_aload_n dX4_swap_56 rfl ?_
        refine am_getR (o' := 0) dX4_swap_57 fl_RX4_12 sh_4 rfl rfl hk_4 ?_
        refine am_iload_n dX4_swap_60 rfl ?_
        refine am_iload_n dX4_swap_61 rfl ?_
        obtain ⟨r8, c7, h⟩ := am_bnd h
        refine am_callVv (as := [.inl x1, .inl x2]) dX4_swap_62 cv_RX4_142 cb_X1_exchange sh_1 rfl hk_1 rfl rfl (Nat.le_of_ble_eq_true rfl) (c_X1_exchange c7) ?_
        refine am_iload_n dX4_swap_65 rfl ?_
        refine am_iload_n dX4_swap_66 rfl ?_
        refine am_icmp_ne 74 dX4_swap_67 rfl (fun b9 => ?_) (fun b9 => ?_)
        · replace h := am_ifF b9 h
          refine am_iconst dX4_swap_74 ic_1 ?_
          obtain rfl := Option.some.inj h
          exact am_ireturn dX4_swap_75 rfl rfl hp
        · replace h := am_ifT b9 h
          refine am_iconst dX4_swap_70 ic_0 ?_
          refine am_goto 75 dX4_swap_71 rfl ?_
          obtain rfl := Option.some.inj h
          exact am_ireturn dX4_swap_75 rfl rfl hp
      · replace h := am_ifF b12 h
        refine am_aload_n dX4_swap_49 rfl ?_
        refine am_bipush dX4_swap_50 bp_m5 ?_
        obtain ⟨r11, c10, h⟩ := am_bnd h
        refine am_callVi (as := [.inl (-5 : Int32)]) dX4_swap_52 cv_RX4_58 cb_X4_refuse sh_4 rfl hk_4 rfl rfl (Nat.le_of_ble_eq_true rfl) (c_X4_refuse c10) ?_
        obtain rfl := Option.some.inj h
        exact am_ireturn dX4_swap_55 rfl rfl hp
    · replace h := am_ifT b15 h
      refine am_aload_n dX4_swap_32 rfl ?_
      refine am_bipush dX4_swap_33 bp_m2 ?_
      obtain ⟨r14, c13, h⟩ := am_bnd h
      refine am_callVi (as := [.inl (-2 : Int32)]) dX4_swap_35 cv_RX4_58 cb_X4_refuse sh_4 rfl hk_4 rfl rfl (Nat.le_of_ble_eq_true rfl) (c_X4_refuse c13) ?_
      obtain rfl := Option.some.inj h
      exact am_ireturn dX4_swap_38 rfl rfl hp
theorem c_X4_swap {K : am_K} {d : Nat} {M : am_M} {x1 : Int32} {x2 : Int32} {y : Int32 × am_M} (h : f_X4_swap M x1 x2 = some y) : am_Met K (d + 2) m_X4_swap [.inr (.inr (4, 0, 0)), .inl x1, .inl x2] M (fun q N => q = some (.inl y.1) ∧ N = y.2) :=
  am_Met_of cb_X4_swap (Nat.le_of_ble_eq_true rfl) (w_X4_swap h ⟨rfl, rfl⟩)
def f_X4_feed (M : am_M) (x1 : Int32) : Option (Int32 × am_M) :=
  (f_X4_isWithin M x1 (255 : Int32)).bind (fun r2 => (if r2 = 0 then (f_X4_refuse M (-2 : Int32)).bind (fun r9 => some (r9.1, r9.2)) else (if (M.1 3 0 0 0) < (250 : Int32) then (f_X3_append M x1).bind (fun r4 => some (r4.1, r4.2)) else (f_X4_refuse M (-6 : Int32)).bind (fun r6 => some (r6.1, r6.2)))))
set_option maxHeartbeats 4000000 in
theorem w_X4_feed {K : am_K} {d : Nat} {post : Option am_V → am_M → Prop} {M : am_M} {x1 : Int32} {y : Int32 × am_M} (h : f_X4_feed M x1 = some y) (hp : post (some (.inl y.1)) y.2) : am_W K (d + 2) m_X4_feed 0 [(0, .inr (.inr (4, 0, 0))), (1, .inl x1)] [] M post := by
  unfold f_X4_feed at h
  refine am_iload_n dX4_feed_0 rfl ?_
  refine am_sipush dX4_feed_1 sp_255 ?_
  obtain ⟨r2, c1, h⟩ := am_bnd h
  refine am_callSi (as := [.inl x1, .inl (255 : Int32)]) dX4_feed_4 cs_RX4_54 cb_X4_isWithin rfl rfl (Nat.le_of_ble_eq_true rfl) (c_X4_isWithin c1) ?_
  refine am_if_ne 17 dX4_feed_7 rfl (fun b10 => ?_) (fun b10 => ?_)
  · replace h := am_ifF b10 h
    refine am_aload_n dX4_feed_17 rfl ?_
    refine am_getR (o' := 0) dX4_feed_18 fl_RX4_32 sh_4 rfl rfl hk_4 ?_
    refine am_getI dX4_feed_21 fl_RX4_145 sh_3 rfl hk_3 ?_
    refine am_sipush dX4_feed_24 sp_250 ?_
    refine am_icmp_lt 37 dX4_feed_27 rfl (fun b7 => ?_) (fun b7 => ?_)
    · replace h := am_ifT b7 h
      refine am_aload_n dX4_feed_37 rfl ?_
      refine am_getR (o' := 0) dX4_feed_38 fl_RX4_32 sh_4 rfl rfl hk_4 ?_
      refine am_iload_n dX4_feed_41 rfl ?_
      obtain ⟨r4, c3, h⟩ := am_bnd h
      refine am_callVi (as := [.inl x1]) dX4_feed_42 cv_RX4_148 cb_X3_append sh_3 rfl hk_3 rfl rfl (Nat.le_of_ble_eq_true rfl) (c_X3_append c3) ?_
      obtain rfl := Option.some.inj h
      exact am_ireturn dX4_feed_45 rfl rfl hp
    · replace h := am_ifF b7 h
      refine am_aload_n dX4_feed_30 rfl ?_
      refine am_bipush dX4_feed_31 bp_m6 ?_
      obtain ⟨r6, c5, h⟩ := am_bnd h
      refine am_callVi (as := [.inl (-6 : Int32)]) dX4_feed_33 cv_RX4_58 cb_X4_refuse sh_4 rfl hk_4 rfl rfl (Nat.le_of_ble_eq_true rfl) (c_X4_refuse c5) ?_
      obtain rfl := Option.some.inj h
      exact am_ireturn dX4_feed_36 rfl rfl hp
  · replace h := am_ifT b10 h
    refine am_aload_n dX4_feed_10 rfl ?_
    refine am_bipush dX4_feed_11 bp_m2 ?_
    obtain ⟨r9, c8, h⟩ := am_bnd h
    refine am_callVi (as := [.inl (-2 : Int32)]) dX4_feed_13 cv_RX4_58 cb_X4_refuse sh_4 rfl hk_4 rfl rfl (Nat.le_of_ble_eq_true rfl) (c_X4_refuse c8) ?_
    obtain rfl := Option.some.inj h
    exact am_ireturn dX4_feed_16 rfl rfl hp
theorem c_X4_feed {K : am_K} {d : Nat} {M : am_M} {x1 : Int32} {y : Int32 × am_M} (h : f_X4_feed M x1 = some y) : am_Met K (d + 2) m_X4_feed [.inr (.inr (4, 0, 0)), .inl x1] M (fun q N => q = some (.inl y.1) ∧ N = y.2) :=
  am_Met_of cb_X4_feed (Nat.le_of_ble_eq_true rfl) (w_X4_feed h ⟨rfl, rfl⟩)
def f_X4_wipe (M : am_M)  : Option (Int32 × am_M) :=
  am_let (M.1 3 0 0 0) (fun v1 => am_let (am_si M 3 0 0 0 (0 : Int32)) (fun M2 => some (v1, M2)))
set_option maxHeartbeats 4000000 in
theorem w_X4_wipe {K : am_K} {d : Nat} {post : Option am_V → am_M → Prop} {M : am_M}  {y : Int32 × am_M} (h : f_X4_wipe M  = some y) (hp : post (some (.inl y.1)) y.2) : am_W K d m_X4_wipe 0 [(0, .inr (.inr (4, 0, 0)))] [] M post := by
  unfold f_X4_wipe at h
  refine am_aload_n dX4_wipe_0 rfl ?_
  refine am_getR (o' := 0) dX4_wipe_1 fl_RX4_32 sh_4 rfl rfl hk_4 ?_
  refine am_getI dX4_wipe_4 fl_RX4_145 sh_3 rfl hk_3 ?_
  obtain ⟨v1, ev1, h⟩ := am_letE h
  refine am_topI ev1 ?_
  refine am_istore_n (ls' := [(0, .inr (.inr (4, 0, 0))), (1, .inl v1)]) dX4_wipe_7 (Nat.le_of_ble_eq_true rfl) rfl ?_
  refine am_aload_n dX4_wipe_8 rfl ?_
  refine am_getR (o' := 0) dX4_wipe_9 fl_RX4_32 sh_4 rfl rfl hk_4 ?_
  refine am_iconst dX4_wipe_12 ic_0 ?_
  obtain ⟨M2, eM2, h⟩ := am_letE h
  refine am_putI dX4_wipe_13 fl_RX4_145 fp_X3_0 sh_3 rfl rfl rfl hk_3 ?_
  refine am_mem eM2 ?_
  refine am_iload_n dX4_wipe_16 rfl ?_
  obtain rfl := Option.some.inj h
  exact am_ireturn dX4_wipe_17 rfl rfl hp
theorem c_X4_wipe {K : am_K} {d : Nat} {M : am_M}  {y : Int32 × am_M} (h : f_X4_wipe M  = some y) : am_Met K d m_X4_wipe [.inr (.inr (4, 0, 0))] M (fun q N => q = some (.inl y.1) ∧ N = y.2) :=
  am_Met_of cb_X4_wipe (Nat.le_of_ble_eq_true rfl) (w_X4_wipe h ⟨rfl, rfl⟩)
def f_X4_heapOf (M : am_M) (x1 : Int32) (x2 : Int32) : Option (Int32 × am_M) :=
  (f_X4_isWithin M x1 ((M.1 1 0 0 0) - (1 : Int32))).bind (fun r2 => (if r2 = 0 then (f_X4_refuse M (-2 : Int32)).bind (fun r4 => some (r4.1, r4.2)) else (f_X4_isWithin M x2 (2 : Int32)).bind (fun r6 => (if r6 = 0 then (f_X4_refuse M (-2 : Int32)).bind (fun r14 => some (r14.1, r14.2)) else (if x2 = (2 : Int32) then (f_X1_placeOf M 0 x1).bind (fun r11 => some (r11, M)) else (if x2 = 0 then if am_inb x1 4 = true then some ((M.1 203 0 0 x1.toNatClampNeg), M) else none else if am_inb x1 4 = true then some ((M.1 204 0 0 x1.toNatClampNeg), M) else none))))))
set_option maxHeartbeats 4000000 in
theorem w_X4_heapOf {K : am_K} {d : Nat} {post : Option am_V → am_M → Prop} {M : am_M} {x1 : Int32} {x2 : Int32} {y : Int32 × am_M} (h : f_X4_heapOf M x1 x2 = some y) (hp : post (some (.inl y.1)) y.2) : am_W K (d + 2) m_X4_heapOf 0 [(0, .inr (.inr (4, 0, 0))), (1, .inl x1), (2, .inl x2)] [] M post := by
  unfold f_X4_heapOf at h
  refine am_iload_n dX4_heapOf_0 rfl ?_
  refine am_aload_n dX4_heapOf_1 rfl ?_
  refine am_getR (o' := 0) dX4_heapOf_2 fl_RX4_12 sh_4 rfl rfl hk_4 ?_
  refine am_getI dX4_heapOf_5 fl_RX4_123 sh_1 rfl hk_1 ?_
  refine am_iconst dX4_heapOf_8 ic_1 ?_
  refine am_isub dX4_heapOf_9 ?_
  obtain ⟨r2, c1, h⟩ := am_bnd h
  refine am_callSi (as := [.inl x1, .inl ((M.1 1 0 0 0) - (1 : Int32))]) dX4_heapOf_10 cs_RX4_54 cb_X4_isWithin rfl rfl (Nat.le_of_ble_eq_true rfl) (c_X4_isWithin c1) ?_
  refine am_if_eq 24 dX4_heapOf_13 rfl (fun b16 => ?_) (fun b16 => ?_)
  · replace h := am_ifT b16 h
    refine am_aload_n dX4_heapOf_24 rfl ?_
    refine am_bipush dX4_heapOf_25 bp_m2 ?_
    obtain ⟨r4, c3, h⟩ := am_bnd h
    refine am_callVi (as := [.inl (-2 : Int32)]) dX4_heapOf_27 cv_RX4_58 cb_X4_refuse sh_4 rfl hk_4 rfl rfl (Nat.le_of_ble_eq_true rfl) (c_X4_refuse c3) ?_
    obtain rfl := Option.some.inj h
    exact am_ireturn dX4_heapOf_30 rfl rfl hp
  · replace h := am_ifF b16 h
    refine am_iload_n dX4_heapOf_16 rfl ?_
    refine am_iconst dX4_heapOf_17 ic_2 ?_
    obtain ⟨r6, c5, h⟩ := am_bnd h
    refine am_callSi (as := [.inl x2, .inl (2 : Int32)]) dX4_heapOf_18 cs_RX4_54 cb_X4_isWithin rfl rfl (Nat.le_of_ble_eq_true rfl) (c_X4_isWithin c5) ?_
    refine am_if_ne 31 dX4_heapOf_21 rfl (fun b15 => ?_) (fun b15 => ?_)
    · replace h := am_ifF b15 h
      refine am_iload_n dX4_heapOf_31 rfl ?_
      refine am_iconst dX4_heapOf_32 ic_2 ?_
      refine am_icmp_ne 45 dX4_heapOf_33 rfl (fun b12 => ?_) (fun b12 => ?_)
      · replace h := am_ifF b12 h
        refine am_iload_n dX4_heapOf_45 rfl ?_
        refine am_if_ne 61 dX4_heapOf_46 rfl (fun b9 => ?_) (fun b9 => ?_)
        · replace h := am_ifF b9 h
          refine am_aload_n dX4_heapOf_61 rfl ?_
          refine am_getR (o' := 0) dX4_heapOf_62 fl_RX4_12 sh_4 rfl rfl hk_4 ?_
          refine am_getR (o' := 0) dX4_heapOf_65 fl_RX4_168 sh_1 rfl rfl hk_1 ?_
          refine am_iload_n dX4_heapOf_68 rfl ?_
          obtain ⟨g7, h⟩ := am_grd h
          refine am_iaload dX4_heapOf_69 sh_204 hk_204 (am_inbE g7) ?_
          obtain rfl := Option.some.inj h
          exact am_ireturn dX4_heapOf_70 rfl rfl hp
        · replace h := am_ifT b9 h
          refine am_aload_n dX4_heapOf_49 rfl ?_
          refine am_getR (o' := 0) dX4_heapOf_50 fl_RX4_12 sh_4 rfl rfl hk_4 ?_
          refine am_getR (o' := 0) dX4_heapOf_53 fl_RX4_165 sh_1 rfl rfl hk_1 ?_
          refine am_iload_n dX4_heapOf_56 rfl ?_
          obtain ⟨g8, h⟩ := am_grd h
          refine am_iaload dX4_heapOf_57 sh_203 hk_203 (am_inbE g8) ?_
          refine am_goto 70 dX4_heapOf_58 rfl ?_
          obtain rfl := Option.some.inj h
          exact am_ireturn dX4_heapOf_70 rfl rfl hp
      · replace h := am_ifT b12 h
        refine am_aload_n dX4_heapOf_36 rfl ?_
        refine am_getR (o' := 0) dX4_heapOf_37 fl_RX4_12 sh_4 rfl rfl hk_4 ?_
        refine am_iload_n dX4_heapOf_40 rfl ?_
        obtain ⟨r11, c10, h⟩ := am_bnd h
        refine am_callVi (as := [.inl x1]) dX4_heapOf_41 cv_RX4_162 cb_X1_placeOf sh_1 rfl hk_1 rfl rfl (Nat.le_of_ble_eq_true rfl) (c_X1_placeOf c10) ?_
        obtain rfl := Option.some.inj h
        exact am_ireturn dX4_heapOf_44 rfl rfl hp
    · replace h := am_ifT b15 h
      refine am_aload_n dX4_heapOf_24 rfl ?_
      refine am_bipush dX4_heapOf_25 bp_m2 ?_
      obtain ⟨r14, c13, h⟩ := am_bnd h
      refine am_callVi (as := [.inl (-2 : Int32)]) dX4_heapOf_27 cv_RX4_58 cb_X4_refuse sh_4 rfl hk_4 rfl rfl (Nat.le_of_ble_eq_true rfl) (c_X4_refuse c13) ?_
      obtain rfl := Option.some.inj h
      exact am_ireturn dX4_heapOf_30 rfl rfl hp
theorem c_X4_heapOf {K : am_K} {d : Nat} {M : am_M} {x1 : Int32} {x2 : Int32} {y : Int32 × am_M} (h : f_X4_heapOf M x1 x2 = some y) : am_Met K (d + 2) m_X4_heapOf [.inr (.inr (4, 0, 0)), .inl x1, .inl x2] M (fun q N => q = some (.inl y.1) ∧ N = y.2) :=
  am_Met_of cb_X4_heapOf (Nat.le_of_ble_eq_true rfl) (w_X4_heapOf h ⟨rfl, rfl⟩)
def f_X4_factOf (M : am_M) (x1 : Int32) (x2 : Int32) : Option (Int32 × am_M) :=
  (f_X4_isWithin M x1 ((M.1 1 0 0 9) - (1 : Int32))).bind (fun r2 => (if r2 = 0 then (f_X4_refuse M (-2 : Int32)).bind (fun r4 => some (r4.1, r4.2)) else (f_X4_isWithin M x2 (2 : Int32)).bind (fun r6 => (if r6 = 0 then (f_X4_refuse M (-2 : Int32)).bind (fun r13 => some (r13.1, r13.2)) else (if x2 = 0 then if am_inb x1 4 = true then some ((M.1 210 0 0 x1.toNatClampNeg), M) else none else (if x2 = (1 : Int32) then if am_inb x1 4 = true then some ((M.1 211 0 0 x1.toNatClampNeg), M) else none else if am_inb x1 4 = true then some ((M.1 212 0 0 x1.toNatClampNeg), M) else none))))))
set_option maxHeartbeats 4000000 in
theorem w_X4_factOf {K : am_K} {d : Nat} {post : Option am_V → am_M → Prop} {M : am_M} {x1 : Int32} {x2 : Int32} {y : Int32 × am_M} (h : f_X4_factOf M x1 x2 = some y) (hp : post (some (.inl y.1)) y.2) : am_W K (d + 2) m_X4_factOf 0 [(0, .inr (.inr (4, 0, 0))), (1, .inl x1), (2, .inl x2)] [] M post := by
  unfold f_X4_factOf at h
  refine am_iload_n dX4_factOf_0 rfl ?_
  refine am_aload_n dX4_factOf_1 rfl ?_
  refine am_getR (o' := 0) dX4_factOf_2 fl_RX4_12 sh_4 rfl rfl hk_4 ?_
  refine am_getI dX4_factOf_5 fl_RX4_132 sh_1 rfl hk_1 ?_
  refine am_iconst dX4_factOf_8 ic_1 ?_
  refine am_isub dX4_factOf_9 ?_
  obtain ⟨r2, c1, h⟩ := am_bnd h
  refine am_callSi (as := [.inl x1, .inl ((M.1 1 0 0 9) - (1 : Int32))]) dX4_factOf_10 cs_RX4_54 cb_X4_isWithin rfl rfl (Nat.le_of_ble_eq_true rfl) (c_X4_isWithin c1) ?_
  refine am_if_eq 24 dX4_factOf_13 rfl (fun b15 => ?_) (fun b15 => ?_)
  · replace h := am_ifT b15 h
    refine am_aload_n dX4_factOf_24 rfl ?_
    refine am_bipush dX4_factOf_25 bp_m2 ?_
    obtain ⟨r4, c3, h⟩ := am_bnd h
    refine am_callVi (as := [.inl (-2 : Int32)]) dX4_factOf_27 cv_RX4_58 cb_X4_refuse sh_4 rfl hk_4 rfl rfl (Nat.le_of_ble_eq_true rfl) (c_X4_refuse c3) ?_
    obtain rfl := Option.some.inj h
    exact am_ireturn dX4_factOf_30 rfl rfl hp
  · replace h := am_ifF b15 h
    refine am_iload_n dX4_factOf_16 rfl ?_
    refine am_iconst dX4_factOf_17 ic_2 ?_
    obtain ⟨r6, c5, h⟩ := am_bnd h
    refine am_callSi (as := [.inl x2, .inl (2 : Int32)]) dX4_factOf_18 cs_RX4_54 cb_X4_isWithin rfl rfl (Nat.le_of_ble_eq_true rfl) (c_X4_isWithin c5) ?_
    refine am_if_ne 31 dX4_factOf_21 rfl (fun b14 => ?_) (fun b14 => ?_)
    · replace h := am_ifF b14 h
      refine am_iload_n dX4_factOf_31 rfl ?_
      refine am_if_ne 45 dX4_factOf_32 rfl (fun b11 => ?_) (fun b11 => ?_)
      · replace h := am_ifF b11 h
        refine am_iload_n dX4_factOf_45 rfl ?_
        refine am_iconst dX4_factOf_46 ic_1 ?_
        refine am_icmp_ne 62 dX4_factOf_47 rfl (fun b9 => ?_) (fun b9 => ?_)
        · replace h := am_ifF b9 h
          refine am_aload_n dX4_factOf_62 rfl ?_
          refine am_getR (o' := 0) dX4_factOf_63 fl_RX4_12 sh_4 rfl rfl hk_4 ?_
          refine am_getR (o' := 0) dX4_factOf_66 fl_RX4_177 sh_1 rfl rfl hk_1 ?_
          refine am_iload_n dX4_factOf_69 rfl ?_
          obtain ⟨g7, h⟩ := am_grd h
          refine am_iaload dX4_factOf_70 sh_212 hk_212 (am_inbE g7) ?_
          obtain rfl := Option.some.inj h
          exact am_ireturn dX4_factOf_71 rfl rfl hp
        · replace h := am_ifT b9 h
          refine am_aload_n dX4_factOf_50 rfl ?_
          refine am_getR (o' := 0) dX4_factOf_51 fl_RX4_12 sh_4 rfl rfl hk_4 ?_
          refine am_getR (o' := 0) dX4_factOf_54 fl_RX4_174 sh_1 rfl rfl hk_1 ?_
          refine am_iload_n dX4_factOf_57 rfl ?_
          obtain ⟨g8, h⟩ := am_grd h
          refine am_iaload dX4_factOf_58 sh_211 hk_211 (am_inbE g8) ?_
          refine am_goto 71 dX4_factOf_59 rfl ?_
          obtain rfl := Option.some.inj h
          exact am_ireturn dX4_factOf_71 rfl rfl hp
      · replace h := am_ifT b11 h
        refine am_aload_n dX4_factOf_35 rfl ?_
        refine am_getR (o' := 0) dX4_factOf_36 fl_RX4_12 sh_4 rfl rfl hk_4 ?_
        refine am_getR (o' := 0) dX4_factOf_39 fl_RX4_171 sh_1 rfl rfl hk_1 ?_
        refine am_iload_n dX4_factOf_42 rfl ?_
        obtain ⟨g10, h⟩ := am_grd h
        refine am_iaload dX4_factOf_43 sh_210 hk_210 (am_inbE g10) ?_
        obtain rfl := Option.some.inj h
        exact am_ireturn dX4_factOf_44 rfl rfl hp
    · replace h := am_ifT b14 h
      refine am_aload_n dX4_factOf_24 rfl ?_
      refine am_bipush dX4_factOf_25 bp_m2 ?_
      obtain ⟨r13, c12, h⟩ := am_bnd h
      refine am_callVi (as := [.inl (-2 : Int32)]) dX4_factOf_27 cv_RX4_58 cb_X4_refuse sh_4 rfl hk_4 rfl rfl (Nat.le_of_ble_eq_true rfl) (c_X4_refuse c12) ?_
      obtain rfl := Option.some.inj h
      exact am_ireturn dX4_factOf_30 rfl rfl hp
theorem c_X4_factOf {K : am_K} {d : Nat} {M : am_M} {x1 : Int32} {x2 : Int32} {y : Int32 × am_M} (h : f_X4_factOf M x1 x2 = some y) : am_Met K (d + 2) m_X4_factOf [.inr (.inr (4, 0, 0)), .inl x1, .inl x2] M (fun q N => q = some (.inl y.1) ∧ N = y.2) :=
  am_Met_of cb_X4_factOf (Nat.le_of_ble_eq_true rfl) (w_X4_factOf h ⟨rfl, rfl⟩)
def f_X4_read (M : am_M) (x1 : Int32) : Option (Int32 × am_M) :=
  (f_X1_take M 0 x1).bind (fun r2 => (if r2.1 = 0 then (f_X4_refuse r2.2 (-5 : Int32)).bind (fun r4 => some (r4.1, r4.2)) else some ((r2.2.1 1 0 0 6), r2.2)))
set_option maxHeartbeats 4000000 in
theorem w_X4_read {K : am_K} {d : Nat} {post : Option am_V → am_M → Prop} {M : am_M} {x1 : Int32} {y : Int32 × am_M} (h : f_X4_read M x1 = some y) (hp : post (some (.inl y.1)) y.2) : am_W K (d + 3) m_X4_read 0 [(0, .inr (.inr (4, 0, 0))), (1, .inl x1)] [] M post := by
  unfold f_X4_read at h
  refine am_aload_n dX4_read_0 rfl ?_
  refine am_getR (o' := 0) dX4_read_1 fl_RX4_12 sh_4 rfl rfl hk_4 ?_
  refine am_iload_n dX4_read_4 rfl ?_
  obtain ⟨r2, c1, h⟩ := am_bnd h
  refine am_callVi (as := [.inl x1]) dX4_read_5 cv_RX4_180 cb_X1_take sh_1 rfl hk_1 rfl rfl (Nat.le_of_ble_eq_true rfl) (c_X1_take c1) ?_
  refine am_if_eq 21 dX4_read_8 rfl (fun b5 => ?_) (fun b5 => ?_)
  · replace h := am_ifT b5 h
    refine am_aload_n dX4_read_21 rfl ?_
    refine am_bipush dX4_read_22 bp_m5 ?_
    obtain ⟨r4, c3, h⟩ := am_bnd h
    refine am_callVi (as := [.inl (-5 : Int32)]) dX4_read_24 cv_RX4_58 cb_X4_refuse sh_4 rfl hk_4 rfl rfl (Nat.le_of_ble_eq_true rfl) (c_X4_refuse c3) ?_
    obtain rfl := Option.some.inj h
    exact am_ireturn dX4_read_27 rfl rfl hp
  · replace h := am_ifF b5 h
    refine am_aload_n dX4_read_11 rfl ?_
    refine am_getR (o' := 0) dX4_read_12 fl_RX4_12 sh_4 rfl rfl hk_4 ?_
    refine am_getI dX4_read_15 fl_RX4_120 sh_1 rfl hk_1 ?_
    refine am_goto 27 dX4_read_18 rfl ?_
    obtain rfl := Option.some.inj h
    exact am_ireturn dX4_read_27 rfl rfl hp
theorem c_X4_read {K : am_K} {d : Nat} {M : am_M} {x1 : Int32} {y : Int32 × am_M} (h : f_X4_read M x1 = some y) : am_Met K (d + 3) m_X4_read [.inr (.inr (4, 0, 0)), .inl x1] M (fun q N => q = some (.inl y.1) ∧ N = y.2) :=
  am_Met_of cb_X4_read (Nat.le_of_ble_eq_true rfl) (w_X4_read h ⟨rfl, rfl⟩)
def f_X4_slip (M : am_M) (x1 : Int32) : Option (Int32 × am_M) :=
  (f_X4_isWithin M x1 ((M.1 1 0 0 6) - (1 : Int32))).bind (fun r2 => (if r2 = 0 then (f_X4_refuse M (-2 : Int32)).bind (fun r4 => some (r4.1, r4.2)) else if am_inb x1 24 = true then some ((M.1 208 0 0 x1.toNatClampNeg), M) else none))
set_option maxHeartbeats 4000000 in
theorem w_X4_slip {K : am_K} {d : Nat} {post : Option am_V → am_M → Prop} {M : am_M} {x1 : Int32} {y : Int32 × am_M} (h : f_X4_slip M x1 = some y) (hp : post (some (.inl y.1)) y.2) : am_W K (d + 2) m_X4_slip 0 [(0, .inr (.inr (4, 0, 0))), (1, .inl x1)] [] M post := by
  unfold f_X4_slip at h
  refine am_iload_n dX4_slip_0 rfl ?_
  refine am_aload_n dX4_slip_1 rfl ?_
  refine am_getR (o' := 0) dX4_slip_2 fl_RX4_12 sh_4 rfl rfl hk_4 ?_
  refine am_getI dX4_slip_5 fl_RX4_120 sh_1 rfl hk_1 ?_
  refine am_iconst dX4_slip_8 ic_1 ?_
  refine am_isub dX4_slip_9 ?_
  obtain ⟨r2, c1, h⟩ := am_bnd h
  refine am_callSi (as := [.inl x1, .inl ((M.1 1 0 0 6) - (1 : Int32))]) dX4_slip_10 cs_RX4_54 cb_X4_isWithin rfl rfl (Nat.le_of_ble_eq_true rfl) (c_X4_isWithin c1) ?_
  refine am_if_eq 28 dX4_slip_13 rfl (fun b6 => ?_) (fun b6 => ?_)
  · replace h := am_ifT b6 h
    refine am_aload_n dX4_slip_28 rfl ?_
    refine am_bipush dX4_slip_29 bp_m2 ?_
    obtain ⟨r4, c3, h⟩ := am_bnd h
    refine am_callVi (as := [.inl (-2 : Int32)]) dX4_slip_31 cv_RX4_58 cb_X4_refuse sh_4 rfl hk_4 rfl rfl (Nat.le_of_ble_eq_true rfl) (c_X4_refuse c3) ?_
    obtain rfl := Option.some.inj h
    exact am_ireturn dX4_slip_34 rfl rfl hp
  · replace h := am_ifF b6 h
    refine am_aload_n dX4_slip_16 rfl ?_
    refine am_getR (o' := 0) dX4_slip_17 fl_RX4_12 sh_4 rfl rfl hk_4 ?_
    refine am_getR (o' := 0) dX4_slip_20 fl_RX4_184 sh_1 rfl rfl hk_1 ?_
    refine am_iload_n dX4_slip_23 rfl ?_
    obtain ⟨g5, h⟩ := am_grd h
    refine am_iaload dX4_slip_24 sh_208 hk_208 (am_inbE g5) ?_
    refine am_goto 34 dX4_slip_25 rfl ?_
    obtain rfl := Option.some.inj h
    exact am_ireturn dX4_slip_34 rfl rfl hp
theorem c_X4_slip {K : am_K} {d : Nat} {M : am_M} {x1 : Int32} {y : Int32 × am_M} (h : f_X4_slip M x1 = some y) : am_Met K (d + 2) m_X4_slip [.inr (.inr (4, 0, 0)), .inl x1] M (fun q N => q = some (.inl y.1) ∧ N = y.2) :=
  am_Met_of cb_X4_slip (Nat.le_of_ble_eq_true rfl) (w_X4_slip h ⟨rfl, rfl⟩)
def f_X4_again (M : am_M)  : Option (Int32 × am_M) :=
  am_let (M.1 1 0 0 6) (fun v1 => (f_X1_layBack M 0).bind (fun r3 => some (v1, r3)))
set_option maxHeartbeats 4000000 in
theorem w_X4_again {K : am_K} {d : Nat} {post : Option am_V → am_M → Prop} {M : am_M}  {y : Int32 × am_M} (h : f_X4_again M  = some y) (hp : post (some (.inl y.1)) y.2) : am_W K (d + 1) m_X4_again 0 [(0, .inr (.inr (4, 0, 0)))] [] M post := by
  unfold f_X4_again at h
  refine am_aload_n dX4_again_0 rfl ?_
  refine am_getR (o' := 0) dX4_again_1 fl_RX4_12 sh_4 rfl rfl hk_4 ?_
  refine am_getI dX4_again_4 fl_RX4_120 sh_1 rfl hk_1 ?_
  obtain ⟨v1, ev1, h⟩ := am_letE h
  refine am_topI ev1 ?_
  refine am_istore_n (ls' := [(0, .inr (.inr (4, 0, 0))), (1, .inl v1)]) dX4_again_7 (Nat.le_of_ble_eq_true rfl) rfl ?_
  refine am_aload_n dX4_again_8 rfl ?_
  refine am_getR (o' := 0) dX4_again_9 fl_RX4_12 sh_4 rfl rfl hk_4 ?_
  obtain ⟨r3, c2, h⟩ := am_bnd h
  refine am_callVv (as := []) dX4_again_12 cv_RX4_187 cb_X1_layBack sh_1 rfl hk_1 rfl rfl (Nat.le_of_ble_eq_true rfl) (c_X1_layBack c2) ?_
  refine am_iload_n dX4_again_15 rfl ?_
  obtain rfl := Option.some.inj h
  exact am_ireturn dX4_again_16 rfl rfl hp
theorem c_X4_again {K : am_K} {d : Nat} {M : am_M}  {y : Int32 × am_M} (h : f_X4_again M  = some y) : am_Met K (d + 1) m_X4_again [.inr (.inr (4, 0, 0))] M (fun q N => q = some (.inl y.1) ∧ N = y.2) :=
  am_Met_of cb_X4_again (Nat.le_of_ble_eq_true rfl) (w_X4_again h ⟨rfl, rfl⟩)
def f_X4_lead (M : am_M)  : Option (Int32) :=
  some (((2 : Int32) * (M.1 1 0 0 7)) - (M.1 1 0 0 6))
set_option maxHeartbeats 4000000 in
theorem w_X4_lead {K : am_K} {d : Nat} {post : Option am_V → am_M → Prop} {M : am_M}  {y : Int32} (h : f_X4_lead M  = some y) (hp : post (some (.inl y)) M) : am_W K d m_X4_lead 0 [(0, .inr (.inr (4, 0, 0)))] [] M post := by
  unfold f_X4_lead at h
  refine am_iconst dX4_lead_0 ic_2 ?_
  refine am_aload_n dX4_lead_1 rfl ?_
  refine am_getR (o' := 0) dX4_lead_2 fl_RX4_12 sh_4 rfl rfl hk_4 ?_
  refine am_getI dX4_lead_5 fl_RX4_190 sh_1 rfl hk_1 ?_
  refine am_imul dX4_lead_8 ?_
  refine am_aload_n dX4_lead_9 rfl ?_
  refine am_getR (o' := 0) dX4_lead_10 fl_RX4_12 sh_4 rfl rfl hk_4 ?_
  refine am_getI dX4_lead_13 fl_RX4_120 sh_1 rfl hk_1 ?_
  refine am_isub dX4_lead_16 ?_
  obtain rfl := Option.some.inj h
  exact am_ireturn dX4_lead_17 rfl rfl hp
theorem c_X4_lead {K : am_K} {d : Nat} {M : am_M}  {y : Int32} (h : f_X4_lead M  = some y) : am_Met K d m_X4_lead [.inr (.inr (4, 0, 0))] M (fun q N => q = some (.inl y) ∧ N = M) :=
  am_Met_of cb_X4_lead (Nat.le_of_ble_eq_true rfl) (w_X4_lead h ⟨rfl, rfl⟩)
def f_X4_isSure (M : am_M)  : Option (Int32 × am_M) :=
  (f_X0_layHeaps M 0 205 0 0 4).bind (fun r2 => (f_X0_markUnsure r2).bind (fun r4 => (f_X0_isMarked r4 (r4.1 1 0 0 6) (r4.1 1 0 0 7)).bind (fun r6 => (if r6 = 0 then some ((1 : Int32), r4) else some ((0 : Int32), r4)))))
set_option maxHeartbeats 4000000 in
theorem w_X4_isSure {K : am_K} {d : Nat} {post : Option am_V → am_M → Prop} {M : am_M}  {y : Int32 × am_M} (h : f_X4_isSure M  = some y) (hp : post (some (.inl y.1)) y.2) : am_W K (d + 3) m_X4_isSure 0 [(0, .inr (.inr (4, 0, 0)))] [] M post := by
  unfold f_X4_isSure at h
  refine am_aload_n dX4_isSure_0 rfl ?_
  refine am_getR (o' := 0) dX4_isSure_1 fl_RX4_25 sh_4 rfl rfl hk_4 ?_
  refine am_aload_n dX4_isSure_4 rfl ?_
  refine am_getR (o' := 0) dX4_isSure_5 fl_RX4_12 sh_4 rfl rfl hk_4 ?_
  refine am_aload_n dX4_isSure_8 rfl ?_
  refine am_getR (o' := 0) dX4_isSure_9 fl_RX4_12 sh_4 rfl rfl hk_4 ?_
  refine am_getR (o' := 0) dX4_isSure_12 fl_RX4_193 sh_1 rfl rfl hk_1 ?_
  obtain ⟨r2, c1, h⟩ := am_bnd h
  refine am_callVv (as := [.inr (.inr (1, 0, 0)), .inr (.inr (205, 0, 0))]) dX4_isSure_15 cv_RX4_196 cb_X0_layHeaps sh_0 rfl hk_0 rfl rfl (Nat.le_of_ble_eq_true rfl) (c_X0_layHeaps sh_205 hk_205 c1) ?_
  refine am_aload_n dX4_isSure_18 rfl ?_
  refine am_getR (o' := 0) dX4_isSure_19 fl_RX4_25 sh_4 rfl rfl hk_4 ?_
  obtain ⟨r4, c3, h⟩ := am_bnd h
  refine am_callVv (as := []) dX4_isSure_22 cv_RX4_200 cb_X0_markUnsure sh_0 rfl hk_0 rfl rfl (Nat.le_of_ble_eq_true rfl) (c_X0_markUnsure c3) ?_
  refine am_aload_n dX4_isSure_25 rfl ?_
  refine am_getR (o' := 0) dX4_isSure_26 fl_RX4_25 sh_4 rfl rfl hk_4 ?_
  refine am_aload_n dX4_isSure_29 rfl ?_
  refine am_getR (o' := 0) dX4_isSure_30 fl_RX4_12 sh_4 rfl rfl hk_4 ?_
  refine am_getI dX4_isSure_33 fl_RX4_120 sh_1 rfl hk_1 ?_
  refine am_aload_n dX4_isSure_36 rfl ?_
  refine am_getR (o' := 0) dX4_isSure_37 fl_RX4_12 sh_4 rfl rfl hk_4 ?_
  refine am_getI dX4_isSure_40 fl_RX4_190 sh_1 rfl hk_1 ?_
  obtain ⟨r6, c5, h⟩ := am_bnd h
  refine am_callVi (as := [.inl (r4.1 1 0 0 6), .inl (r4.1 1 0 0 7)]) dX4_isSure_43 cv_RX4_203 cb_X0_isMarked sh_0 rfl hk_0 rfl rfl (Nat.le_of_ble_eq_true rfl) (c_X0_isMarked c5) ?_
  refine am_if_eq 53 dX4_isSure_46 rfl (fun b7 => ?_) (fun b7 => ?_)
  · replace h := am_ifT b7 h
    refine am_iconst dX4_isSure_53 ic_1 ?_
    obtain rfl := Option.some.inj h
    exact am_ireturn dX4_isSure_54 rfl rfl hp
  · replace h := am_ifF b7 h
    refine am_iconst dX4_isSure_49 ic_0 ?_
    refine am_goto 54 dX4_isSure_50 rfl ?_
    obtain rfl := Option.some.inj h
    exact am_ireturn dX4_isSure_54 rfl rfl hp
theorem c_X4_isSure {K : am_K} {d : Nat} {M : am_M}  {y : Int32 × am_M} (h : f_X4_isSure M  = some y) : am_Met K (d + 3) m_X4_isSure [.inr (.inr (4, 0, 0))] M (fun q N => q = some (.inl y.1) ∧ N = y.2) :=
  am_Met_of cb_X4_isSure (Nat.le_of_ble_eq_true rfl) (w_X4_isSure h ⟨rfl, rfl⟩)
def f_X4_rows (M : am_M)  : Option (Int32 × am_M) :=
  (f_X0_layHeaps M 0 205 0 0 4).bind (fun r2 => (f_X0_countRows r2).bind (fun r4 => some (r4.1, r4.2)))
set_option maxHeartbeats 4000000 in
theorem w_X4_rows {K : am_K} {d : Nat} {post : Option am_V → am_M → Prop} {M : am_M}  {y : Int32 × am_M} (h : f_X4_rows M  = some y) (hp : post (some (.inl y.1)) y.2) : am_W K (d + 3) m_X4_rows 0 [(0, .inr (.inr (4, 0, 0)))] [] M post := by
  unfold f_X4_rows at h
  refine am_aload_n dX4_rows_0 rfl ?_
  refine am_getR (o' := 0) dX4_rows_1 fl_RX4_25 sh_4 rfl rfl hk_4 ?_
  refine am_aload_n dX4_rows_4 rfl ?_
  refine am_getR (o' := 0) dX4_rows_5 fl_RX4_12 sh_4 rfl rfl hk_4 ?_
  refine am_aload_n dX4_rows_8 rfl ?_
  refine am_getR (o' := 0) dX4_rows_9 fl_RX4_12 sh_4 rfl rfl hk_4 ?_
  refine am_getR (o' := 0) dX4_rows_12 fl_RX4_193 sh_1 rfl rfl hk_1 ?_
  obtain ⟨r2, c1, h⟩ := am_bnd h
  refine am_callVv (as := [.inr (.inr (1, 0, 0)), .inr (.inr (205, 0, 0))]) dX4_rows_15 cv_RX4_196 cb_X0_layHeaps sh_0 rfl hk_0 rfl rfl (Nat.le_of_ble_eq_true rfl) (c_X0_layHeaps sh_205 hk_205 c1) ?_
  refine am_aload_n dX4_rows_18 rfl ?_
  refine am_getR (o' := 0) dX4_rows_19 fl_RX4_25 sh_4 rfl rfl hk_4 ?_
  obtain ⟨r4, c3, h⟩ := am_bnd h
  refine am_callVi (as := []) dX4_rows_22 cv_RX4_206 cb_X0_countRows sh_0 rfl hk_0 rfl rfl (Nat.le_of_ble_eq_true rfl) (c_X0_countRows c3) ?_
  obtain rfl := Option.some.inj h
  exact am_ireturn dX4_rows_25 rfl rfl hp
theorem c_X4_rows {K : am_K} {d : Nat} {M : am_M}  {y : Int32 × am_M} (h : f_X4_rows M  = some y) : am_Met K (d + 3) m_X4_rows [.inr (.inr (4, 0, 0))] M (fun q N => q = some (.inl y.1) ∧ N = y.2) :=
  am_Met_of cb_X4_rows (Nat.le_of_ble_eq_true rfl) (w_X4_rows h ⟨rfl, rfl⟩)
def f_X4_ways (M : am_M)  : Option (Int32 × am_M) :=
  (f_X0_layFitting M 0).bind (fun r2 => (f_X0_countRows r2).bind (fun r4 => some (r4.1, r4.2)))
set_option maxHeartbeats 4000000 in
theorem w_X4_ways {K : am_K} {d : Nat} {post : Option am_V → am_M → Prop} {M : am_M}  {y : Int32 × am_M} (h : f_X4_ways M  = some y) (hp : post (some (.inl y.1)) y.2) : am_W K (d + 5) m_X4_ways 0 [(0, .inr (.inr (4, 0, 0)))] [] M post := by
  unfold f_X4_ways at h
  refine am_aload_n dX4_ways_0 rfl ?_
  refine am_getR (o' := 0) dX4_ways_1 fl_RX4_25 sh_4 rfl rfl hk_4 ?_
  refine am_aload_n dX4_ways_4 rfl ?_
  refine am_getR (o' := 0) dX4_ways_5 fl_RX4_12 sh_4 rfl rfl hk_4 ?_
  obtain ⟨r2, c1, h⟩ := am_bnd h
  refine am_callVv (as := [.inr (.inr (1, 0, 0))]) dX4_ways_8 cv_RX4_209 cb_X0_layFitting sh_0 rfl hk_0 rfl rfl (Nat.le_of_ble_eq_true rfl) (c_X0_layFitting c1) ?_
  refine am_aload_n dX4_ways_11 rfl ?_
  refine am_getR (o' := 0) dX4_ways_12 fl_RX4_25 sh_4 rfl rfl hk_4 ?_
  obtain ⟨r4, c3, h⟩ := am_bnd h
  refine am_callVi (as := []) dX4_ways_15 cv_RX4_206 cb_X0_countRows sh_0 rfl hk_0 rfl rfl (Nat.le_of_ble_eq_true rfl) (c_X0_countRows c3) ?_
  obtain rfl := Option.some.inj h
  exact am_ireturn dX4_ways_18 rfl rfl hp
theorem c_X4_ways {K : am_K} {d : Nat} {M : am_M}  {y : Int32 × am_M} (h : f_X4_ways M  = some y) : am_Met K (d + 5) m_X4_ways [.inr (.inr (4, 0, 0))] M (fun q N => q = some (.inl y.1) ∧ N = y.2) :=
  am_Met_of cb_X4_ways (Nat.le_of_ble_eq_true rfl) (w_X4_ways h ⟨rfl, rfl⟩)
def f_X4_fittingAhead (M : am_M) (x1 : Int32) : Option (Int32 × am_M) :=
  (f_X0_layFitting M 0).bind (fun r2 => (f_X0_keepAhead r2 x1 (1 : Int32) (r2.1 0 0 0 0)).bind (fun r4 => (f_X0_countRows r4).bind (fun r6 => some (r6.1, r6.2))))
set_option maxHeartbeats 4000000 in
theorem w_X4_fittingAhead {K : am_K} {d : Nat} {post : Option am_V → am_M → Prop} {M : am_M} {x1 : Int32} {y : Int32 × am_M} (h : f_X4_fittingAhead M x1 = some y) (hp : post (some (.inl y.1)) y.2) : am_W K (d + 5) m_X4_fittingAhead 0 [(0, .inr (.inr (4, 0, 0))), (1, .inl x1)] [] M post := by
  unfold f_X4_fittingAhead at h
  refine am_aload_n dX4_fittingAhead_0 rfl ?_
  refine am_getR (o' := 0) dX4_fittingAhead_1 fl_RX4_25 sh_4 rfl rfl hk_4 ?_
  refine am_aload_n dX4_fittingAhead_4 rfl ?_
  refine am_getR (o' := 0) dX4_fittingAhead_5 fl_RX4_12 sh_4 rfl rfl hk_4 ?_
  obtain ⟨r2, c1, h⟩ := am_bnd h
  refine am_callVv (as := [.inr (.inr (1, 0, 0))]) dX4_fittingAhead_8 cv_RX4_209 cb_X0_layFitting sh_0 rfl hk_0 rfl rfl (Nat.le_of_ble_eq_true rfl) (c_X0_layFitting c1) ?_
  refine am_aload_n dX4_fittingAhead_11 rfl ?_
  refine am_getR (o' := 0) dX4_fittingAhead_12 fl_RX4_25 sh_4 rfl rfl hk_4 ?_
  refine am_iload_n dX4_fittingAhead_15 rfl ?_
  refine am_iconst dX4_fittingAhead_16 ic_1 ?_
  refine am_aload_n dX4_fittingAhead_17 rfl ?_
  refine am_getR (o' := 0) dX4_fittingAhead_18 fl_RX4_25 sh_4 rfl rfl hk_4 ?_
  refine am_getI dX4_fittingAhead_21 fl_RX4_215 sh_0 rfl hk_0 ?_
  obtain ⟨r4, c3, h⟩ := am_bnd h
  refine am_callVv (as := [.inl x1, .inl (1 : Int32), .inl (r2.1 0 0 0 0)]) dX4_fittingAhead_24 cv_RX4_342 cb_X0_keepAhead sh_0 rfl hk_0 rfl rfl (Nat.le_of_ble_eq_true rfl) (c_X0_keepAhead c3) ?_
  refine am_aload_n dX4_fittingAhead_27 rfl ?_
  refine am_getR (o' := 0) dX4_fittingAhead_28 fl_RX4_25 sh_4 rfl rfl hk_4 ?_
  obtain ⟨r6, c5, h⟩ := am_bnd h
  refine am_callVi (as := []) dX4_fittingAhead_31 cv_RX4_206 cb_X0_countRows sh_0 rfl hk_0 rfl rfl (Nat.le_of_ble_eq_true rfl) (c_X0_countRows c5) ?_
  obtain rfl := Option.some.inj h
  exact am_ireturn dX4_fittingAhead_34 rfl rfl hp
theorem c_X4_fittingAhead {K : am_K} {d : Nat} {M : am_M} {x1 : Int32} {y : Int32 × am_M} (h : f_X4_fittingAhead M x1 = some y) : am_Met K (d + 5) m_X4_fittingAhead [.inr (.inr (4, 0, 0)), .inl x1] M (fun q N => q = some (.inl y.1) ∧ N = y.2) :=
  am_Met_of cb_X4_fittingAhead (Nat.le_of_ble_eq_true rfl) (w_X4_fittingAhead h ⟨rfl, rfl⟩)
def f_X4_ahead (M : am_M) (x1 : Int32) : Option (Int32 × am_M) :=
  (f_X4_isWithin M x1 (9 : Int32)).bind (fun r2 => (if r2 = 0 then (f_X4_refuse M (-2 : Int32)).bind (fun r4 => some (r4.1, r4.2)) else (f_X4_fittingAhead M x1).bind (fun r6 => some (r6.1, r6.2))))
set_option maxHeartbeats 4000000 in
theorem w_X4_ahead {K : am_K} {d : Nat} {post : Option am_V → am_M → Prop} {M : am_M} {x1 : Int32} {y : Int32 × am_M} (h : f_X4_ahead M x1 = some y) (hp : post (some (.inl y.1)) y.2) : am_W K (d + 6) m_X4_ahead 0 [(0, .inr (.inr (4, 0, 0))), (1, .inl x1)] [] M post := by
  unfold f_X4_ahead at h
  refine am_iload_n dX4_ahead_0 rfl ?_
  refine am_bipush dX4_ahead_1 bp_9 ?_
  obtain ⟨r2, c1, h⟩ := am_bnd h
  refine am_callSi (as := [.inl x1, .inl (9 : Int32)]) dX4_ahead_3 cs_RX4_54 cb_X4_isWithin rfl rfl (Nat.le_of_ble_eq_true rfl) (c_X4_isWithin c1) ?_
  refine am_if_eq 17 dX4_ahead_6 rfl (fun b7 => ?_) (fun b7 => ?_)
  · replace h := am_ifT b7 h
    refine am_aload_n dX4_ahead_17 rfl ?_
    refine am_bipush dX4_ahead_18 bp_m2 ?_
    obtain ⟨r4, c3, h⟩ := am_bnd h
    refine am_callVi (as := [.inl (-2 : Int32)]) dX4_ahead_20 cv_RX4_58 cb_X4_refuse sh_4 rfl hk_4 rfl rfl (Nat.le_of_ble_eq_true rfl) (c_X4_refuse c3) ?_
    obtain rfl := Option.some.inj h
    exact am_ireturn dX4_ahead_23 rfl rfl hp
  · replace h := am_ifF b7 h
    refine am_aload_n dX4_ahead_9 rfl ?_
    refine am_iload_n dX4_ahead_10 rfl ?_
    obtain ⟨r6, c5, h⟩ := am_bnd h
    refine am_callVi (as := [.inl x1]) dX4_ahead_11 cv_RX4_212 cb_X4_fittingAhead sh_4 rfl hk_4 rfl rfl (Nat.le_of_ble_eq_true rfl) (c_X4_fittingAhead c5) ?_
    refine am_goto 23 dX4_ahead_14 rfl ?_
    obtain rfl := Option.some.inj h
    exact am_ireturn dX4_ahead_23 rfl rfl hp
theorem c_X4_ahead {K : am_K} {d : Nat} {M : am_M} {x1 : Int32} {y : Int32 × am_M} (h : f_X4_ahead M x1 = some y) : am_Met K (d + 6) m_X4_ahead [.inr (.inr (4, 0, 0)), .inl x1] M (fun q N => q = some (.inl y.1) ∧ N = y.2) :=
  am_Met_of cb_X4_ahead (Nat.le_of_ble_eq_true rfl) (w_X4_ahead h ⟨rfl, rfl⟩)
def f_X4_never (M : am_M)  : Option (Int32 × am_M) :=
  (f_X0_layFitting M 0).bind (fun r2 => (f_X0_keepNotBehind r2 (1 : Int32) (r2.1 0 0 0 0)).bind (fun r4 => (f_X0_countRows r4).bind (fun r6 => some (r6.1, r6.2))))
set_option maxHeartbeats 4000000 in
theorem w_X4_never {K : am_K} {d : Nat} {post : Option am_V → am_M → Prop} {M : am_M}  {y : Int32 × am_M} (h : f_X4_never M  = some y) (hp : post (some (.inl y.1)) y.2) : am_W K (d + 5) m_X4_never 0 [(0, .inr (.inr (4, 0, 0)))] [] M post := by
  unfold f_X4_never at h
  refine am_aload_n dX4_never_0 rfl ?_
  refine am_getR (o' := 0) dX4_never_1 fl_RX4_25 sh_4 rfl rfl hk_4 ?_
  refine am_aload_n dX4_never_4 rfl ?_
  refine am_getR (o' := 0) dX4_never_5 fl_RX4_12 sh_4 rfl rfl hk_4 ?_
  obtain ⟨r2, c1, h⟩ := am_bnd h
  refine am_callVv (as := [.inr (.inr (1, 0, 0))]) dX4_never_8 cv_RX4_209 cb_X0_layFitting sh_0 rfl hk_0 rfl rfl (Nat.le_of_ble_eq_true rfl) (c_X0_layFitting c1) ?_
  refine am_aload_n dX4_never_11 rfl ?_
  refine am_getR (o' := 0) dX4_never_12 fl_RX4_25 sh_4 rfl rfl hk_4 ?_
  refine am_iconst dX4_never_15 ic_1 ?_
  refine am_aload_n dX4_never_16 rfl ?_
  refine am_getR (o' := 0) dX4_never_17 fl_RX4_25 sh_4 rfl rfl hk_4 ?_
  refine am_getI dX4_never_20 fl_RX4_215 sh_0 rfl hk_0 ?_
  obtain ⟨r4, c3, h⟩ := am_bnd h
  refine am_callVv (as := [.inl (1 : Int32), .inl (r2.1 0 0 0 0)]) dX4_never_23 cv_RX4_218 cb_X0_keepNotBehind sh_0 rfl hk_0 rfl rfl (Nat.le_of_ble_eq_true rfl) (c_X0_keepNotBehind c3) ?_
  refine am_aload_n dX4_never_26 rfl ?_
  refine am_getR (o' := 0) dX4_never_27 fl_RX4_25 sh_4 rfl rfl hk_4 ?_
  obtain ⟨r6, c5, h⟩ := am_bnd h
  refine am_callVi (as := []) dX4_never_30 cv_RX4_206 cb_X0_countRows sh_0 rfl hk_0 rfl rfl (Nat.le_of_ble_eq_true rfl) (c_X0_countRows c5) ?_
  obtain rfl := Option.some.inj h
  exact am_ireturn dX4_never_33 rfl rfl hp
theorem c_X4_never {K : am_K} {d : Nat} {M : am_M}  {y : Int32 × am_M} (h : f_X4_never M  = some y) : am_Met K (d + 5) m_X4_never [.inr (.inr (4, 0, 0))] M (fun q N => q = some (.inl y.1) ∧ N = y.2) :=
  am_Met_of cb_X4_never (Nat.le_of_ble_eq_true rfl) (w_X4_never h ⟨rfl, rfl⟩)
def f_X4_tallyLevel (M : am_M)  : Option (am_M) :=
  (f_X0_layFitting M 0).bind (fun r2 => (f_X0_markLevel r2).bind (fun r4 => (f_X0_tallyMarks r4).bind (fun r6 => some r6)))
set_option maxHeartbeats 4000000 in
theorem w_X4_tallyLevel {K : am_K} {d : Nat} {post : Option am_V → am_M → Prop} {M : am_M}  {y : am_M} (h : f_X4_tallyLevel M  = some y) (hp : post none y) : am_W K (d + 5) m_X4_tallyLevel 0 [(0, .inr (.inr (4, 0, 0)))] [] M post := by
  unfold f_X4_tallyLevel at h
  refine am_aload_n dX4_tallyLevel_0 rfl ?_
  refine am_getR (o' := 0) dX4_tallyLevel_1 fl_RX4_25 sh_4 rfl rfl hk_4 ?_
  refine am_aload_n dX4_tallyLevel_4 rfl ?_
  refine am_getR (o' := 0) dX4_tallyLevel_5 fl_RX4_12 sh_4 rfl rfl hk_4 ?_
  obtain ⟨r2, c1, h⟩ := am_bnd h
  refine am_callVv (as := [.inr (.inr (1, 0, 0))]) dX4_tallyLevel_8 cv_RX4_209 cb_X0_layFitting sh_0 rfl hk_0 rfl rfl (Nat.le_of_ble_eq_true rfl) (c_X0_layFitting c1) ?_
  refine am_aload_n dX4_tallyLevel_11 rfl ?_
  refine am_getR (o' := 0) dX4_tallyLevel_12 fl_RX4_25 sh_4 rfl rfl hk_4 ?_
  obtain ⟨r4, c3, h⟩ := am_bnd h
  refine am_callVv (as := []) dX4_tallyLevel_15 cv_RX4_352 cb_X0_markLevel sh_0 rfl hk_0 rfl rfl (Nat.le_of_ble_eq_true rfl) (c_X0_markLevel c3) ?_
  refine am_aload_n dX4_tallyLevel_18 rfl ?_
  refine am_getR (o' := 0) dX4_tallyLevel_19 fl_RX4_25 sh_4 rfl rfl hk_4 ?_
  obtain ⟨r6, c5, h⟩ := am_bnd h
  refine am_callVv (as := []) dX4_tallyLevel_22 cv_RX4_266 cb_X0_tallyMarks sh_0 rfl hk_0 rfl rfl (Nat.le_of_ble_eq_true rfl) (c_X0_tallyMarks c5) ?_
  obtain rfl := Option.some.inj h
  exact am_return dX4_tallyLevel_25 rfl hp
theorem c_X4_tallyLevel {K : am_K} {d : Nat} {M : am_M}  {y : am_M} (h : f_X4_tallyLevel M  = some y) : am_Met K (d + 5) m_X4_tallyLevel [.inr (.inr (4, 0, 0))] M (fun q N => q = none ∧ N = y) :=
  am_Met_of cb_X4_tallyLevel (Nat.le_of_ble_eq_true rfl) (w_X4_tallyLevel h ⟨rfl, rfl⟩)
def f_X4_level (M : am_M) (x1 : Int32) : Option (Int32 × am_M) :=
  (f_X4_isWithin M x1 (24 : Int32)).bind (fun r2 => (if r2 = 0 then (f_X4_refuse M (-2 : Int32)).bind (fun r7 => some (r7.1, r7.2)) else (f_X4_tallyLevel M).bind (fun r4 => if am_inb x1 25 = true then some ((r4.1 102 0 0 x1.toNatClampNeg), r4) else none)))
set_option maxHeartbeats 4000000 in
theorem w_X4_level {K : am_K} {d : Nat} {post : Option am_V → am_M → Prop} {M : am_M} {x1 : Int32} {y : Int32 × am_M} (h : f_X4_level M x1 = some y) (hp : post (some (.inl y.1)) y.2) : am_W K (d + 6) m_X4_level 0 [(0, .inr (.inr (4, 0, 0))), (1, .inl x1)] [] M post := by
  unfold f_X4_level at h
  refine am_iload_n dX4_level_0 rfl ?_
  refine am_bipush dX4_level_1 bp_24 ?_
  obtain ⟨r2, c1, h⟩ := am_bnd h
  refine am_callSi (as := [.inl x1, .inl (24 : Int32)]) dX4_level_3 cs_RX4_54 cb_X4_isWithin rfl rfl (Nat.le_of_ble_eq_true rfl) (c_X4_isWithin c1) ?_
  refine am_if_ne 16 dX4_level_6 rfl (fun b8 => ?_) (fun b8 => ?_)
  · replace h := am_ifF b8 h
    refine am_aload_n dX4_level_16 rfl ?_
    obtain ⟨r4, c3, h⟩ := am_bnd h
    refine am_callVv (as := []) dX4_level_17 cv_RX4_221 cb_X4_tallyLevel sh_4 rfl hk_4 rfl rfl (Nat.le_of_ble_eq_true rfl) (c_X4_tallyLevel c3) ?_
    refine am_aload_n dX4_level_20 rfl ?_
    refine am_getR (o' := 0) dX4_level_21 fl_RX4_25 sh_4 rfl rfl hk_4 ?_
    refine am_getR (o' := 0) dX4_level_24 fl_RX4_224 sh_0 rfl rfl hk_0 ?_
    refine am_iload_n dX4_level_27 rfl ?_
    obtain ⟨g5, h⟩ := am_grd h
    refine am_iaload dX4_level_28 sh_102 hk_102 (am_inbE g5) ?_
    obtain rfl := Option.some.inj h
    exact am_ireturn dX4_level_29 rfl rfl hp
  · replace h := am_ifT b8 h
    refine am_aload_n dX4_level_9 rfl ?_
    refine am_bipush dX4_level_10 bp_m2 ?_
    obtain ⟨r7, c6, h⟩ := am_bnd h
    refine am_callVi (as := [.inl (-2 : Int32)]) dX4_level_12 cv_RX4_58 cb_X4_refuse sh_4 rfl hk_4 rfl rfl (Nat.le_of_ble_eq_true rfl) (c_X4_refuse c6) ?_
    obtain rfl := Option.some.inj h
    exact am_ireturn dX4_level_15 rfl rfl hp
theorem c_X4_level {K : am_K} {d : Nat} {M : am_M} {x1 : Int32} {y : Int32 × am_M} (h : f_X4_level M x1 = some y) : am_Met K (d + 6) m_X4_level [.inr (.inr (4, 0, 0)), .inl x1] M (fun q N => q = some (.inl y.1) ∧ N = y.2) :=
  am_Met_of cb_X4_level (Nat.le_of_ble_eq_true rfl) (w_X4_level h ⟨rfl, rfl⟩)
def f_X4_last (M : am_M) (x1 : Int32) : Option (Int32 × am_M) :=
  (f_X4_isWithin M x1 (24 : Int32)).bind (fun r2 => (if r2 = 0 then (f_X4_refuse M (-2 : Int32)).bind (fun r13 => some (r13.1, r13.2)) else (f_X0_layFitting M 0).bind (fun r4 => (if x1 ≤ (r4.1 0 0 0 0) then (f_X0_keepLevel r4 x1).bind (fun r6 => (f_X0_closeLevel r6 (x1 + (1 : Int32)) (r6.1 0 0 0 0)).bind (fun r8 => (f_X0_countRows r8).bind (fun r10 => some (r10.1, r10.2)))) else some ((0 : Int32), r4)))))
set_option maxHeartbeats 4000000 in
theorem w_X4_last {K : am_K} {d : Nat} {post : Option am_V → am_M → Prop} {M : am_M} {x1 : Int32} {y : Int32 × am_M} (h : f_X4_last M x1 = some y) (hp : post (some (.inl y.1)) y.2) : am_W K (d + 5) m_X4_last 0 [(0, .inr (.inr (4, 0, 0))), (1, .inl x1)] [] M post := by
  unfold f_X4_last at h
  refine am_iload_n dX4_last_0 rfl ?_
  refine am_bipush dX4_last_1 bp_24 ?_
  obtain ⟨r2, c1, h⟩ := am_bnd h
  refine am_callSi (as := [.inl x1, .inl (24 : Int32)]) dX4_last_3 cs_RX4_54 cb_X4_isWithin rfl rfl (Nat.le_of_ble_eq_true rfl) (c_X4_isWithin c1) ?_
  refine am_if_ne 16 dX4_last_6 rfl (fun b14 => ?_) (fun b14 => ?_)
  · replace h := am_ifF b14 h
    refine am_aload_n dX4_last_16 rfl ?_
    refine am_getR (o' := 0) dX4_last_17 fl_RX4_25 sh_4 rfl rfl hk_4 ?_
    refine am_aload_n dX4_last_20 rfl ?_
    refine am_getR (o' := 0) dX4_last_21 fl_RX4_12 sh_4 rfl rfl hk_4 ?_
    obtain ⟨r4, c3, h⟩ := am_bnd h
    refine am_callVv (as := [.inr (.inr (1, 0, 0))]) dX4_last_24 cv_RX4_209 cb_X0_layFitting sh_0 rfl hk_0 rfl rfl (Nat.le_of_ble_eq_true rfl) (c_X0_layFitting c3) ?_
    refine am_iload_n dX4_last_27 rfl ?_
    refine am_aload_n dX4_last_28 rfl ?_
    refine am_getR (o' := 0) dX4_last_29 fl_RX4_25 sh_4 rfl rfl hk_4 ?_
    refine am_getI dX4_last_32 fl_RX4_215 sh_0 rfl hk_0 ?_
    refine am_icmp_le 40 dX4_last_35 rfl (fun b11 => ?_) (fun b11 => ?_)
    · replace h := am_ifT b11 h
      refine am_aload_n dX4_last_40 rfl ?_
      refine am_getR (o' := 0) dX4_last_41 fl_RX4_25 sh_4 rfl rfl hk_4 ?_
      refine am_iload_n dX4_last_44 rfl ?_
      obtain ⟨r6, c5, h⟩ := am_bnd h
      refine am_callVv (as := [.inl x1]) dX4_last_45 cv_RX4_227 cb_X0_keepLevel sh_0 rfl hk_0 rfl rfl (Nat.le_of_ble_eq_true rfl) (c_X0_keepLevel c5) ?_
      refine am_aload_n dX4_last_48 rfl ?_
      refine am_getR (o' := 0) dX4_last_49 fl_RX4_25 sh_4 rfl rfl hk_4 ?_
      refine am_iload_n dX4_last_52 rfl ?_
      refine am_iconst dX4_last_53 ic_1 ?_
      refine am_iadd dX4_last_54 ?_
      refine am_aload_n dX4_last_55 rfl ?_
      refine am_getR (o' := 0) dX4_last_56 fl_RX4_25 sh_4 rfl rfl hk_4 ?_
      refine am_getI dX4_last_59 fl_RX4_215 sh_0 rfl hk_0 ?_
      obtain ⟨r8, c7, h⟩ := am_bnd h
      refine am_callVv (as := [.inl (x1 + (1 : Int32)), .inl (r6.1 0 0 0 0)]) dX4_last_62 cv_RX4_231 cb_X0_closeLevel sh_0 rfl hk_0 rfl rfl (Nat.le_of_ble_eq_true rfl) (c_X0_closeLevel c7) ?_
      refine am_aload_n dX4_last_65 rfl ?_
      refine am_getR (o' := 0) dX4_last_66 fl_RX4_25 sh_4 rfl rfl hk_4 ?_
      obtain ⟨r10, c9, h⟩ := am_bnd h
      refine am_callVi (as := []) dX4_last_69 cv_RX4_206 cb_X0_countRows sh_0 rfl hk_0 rfl rfl (Nat.le_of_ble_eq_true rfl) (c_X0_countRows c9) ?_
      obtain rfl := Option.some.inj h
      exact am_ireturn dX4_last_72 rfl rfl hp
    · replace h := am_ifF b11 h
      refine am_iconst dX4_last_38 ic_0 ?_
      obtain rfl := Option.some.inj h
      exact am_ireturn dX4_last_39 rfl rfl hp
  · replace h := am_ifT b14 h
    refine am_aload_n dX4_last_9 rfl ?_
    refine am_bipush dX4_last_10 bp_m2 ?_
    obtain ⟨r13, c12, h⟩ := am_bnd h
    refine am_callVi (as := [.inl (-2 : Int32)]) dX4_last_12 cv_RX4_58 cb_X4_refuse sh_4 rfl hk_4 rfl rfl (Nat.le_of_ble_eq_true rfl) (c_X4_refuse c12) ?_
    obtain rfl := Option.some.inj h
    exact am_ireturn dX4_last_15 rfl rfl hp
theorem c_X4_last {K : am_K} {d : Nat} {M : am_M} {x1 : Int32} {y : Int32 × am_M} (h : f_X4_last M x1 = some y) : am_Met K (d + 5) m_X4_last [.inr (.inr (4, 0, 0)), .inl x1] M (fun q N => q = some (.inl y.1) ∧ N = y.2) :=
  am_Met_of cb_X4_last (Nat.le_of_ble_eq_true rfl) (w_X4_last h ⟨rfl, rfl⟩)
def f_X4_tallySure (M : am_M)  : Option (am_M) :=
  (f_X0_layFitting M 0).bind (fun r2 => (f_X0_markUnsure r2).bind (fun r4 => (f_X0_tallyMarks r4).bind (fun r6 => some r6)))
set_option maxHeartbeats 4000000 in
theorem w_X4_tallySure {K : am_K} {d : Nat} {post : Option am_V → am_M → Prop} {M : am_M}  {y : am_M} (h : f_X4_tallySure M  = some y) (hp : post none y) : am_W K (d + 5) m_X4_tallySure 0 [(0, .inr (.inr (4, 0, 0)))] [] M post := by
  unfold f_X4_tallySure at h
  refine am_aload_n dX4_tallySure_0 rfl ?_
  refine am_getR (o' := 0) dX4_tallySure_1 fl_RX4_25 sh_4 rfl rfl hk_4 ?_
  refine am_aload_n dX4_tallySure_4 rfl ?_
  refine am_getR (o' := 0) dX4_tallySure_5 fl_RX4_12 sh_4 rfl rfl hk_4 ?_
  obtain ⟨r2, c1, h⟩ := am_bnd h
  refine am_callVv (as := [.inr (.inr (1, 0, 0))]) dX4_tallySure_8 cv_RX4_209 cb_X0_layFitting sh_0 rfl hk_0 rfl rfl (Nat.le_of_ble_eq_true rfl) (c_X0_layFitting c1) ?_
  refine am_aload_n dX4_tallySure_11 rfl ?_
  refine am_getR (o' := 0) dX4_tallySure_12 fl_RX4_25 sh_4 rfl rfl hk_4 ?_
  obtain ⟨r4, c3, h⟩ := am_bnd h
  refine am_callVv (as := []) dX4_tallySure_15 cv_RX4_200 cb_X0_markUnsure sh_0 rfl hk_0 rfl rfl (Nat.le_of_ble_eq_true rfl) (c_X0_markUnsure c3) ?_
  refine am_aload_n dX4_tallySure_18 rfl ?_
  refine am_getR (o' := 0) dX4_tallySure_19 fl_RX4_25 sh_4 rfl rfl hk_4 ?_
  obtain ⟨r6, c5, h⟩ := am_bnd h
  refine am_callVv (as := []) dX4_tallySure_22 cv_RX4_266 cb_X0_tallyMarks sh_0 rfl hk_0 rfl rfl (Nat.le_of_ble_eq_true rfl) (c_X0_tallyMarks c5) ?_
  obtain rfl := Option.some.inj h
  exact am_return dX4_tallySure_25 rfl hp
theorem c_X4_tallySure {K : am_K} {d : Nat} {M : am_M}  {y : am_M} (h : f_X4_tallySure M  = some y) : am_Met K (d + 5) m_X4_tallySure [.inr (.inr (4, 0, 0))] M (fun q N => q = none ∧ N = y) :=
  am_Met_of cb_X4_tallySure (Nat.le_of_ble_eq_true rfl) (w_X4_tallySure h ⟨rfl, rfl⟩)
def f_X4_sure (M : am_M) (x1 : Int32) : Option (Int32 × am_M) :=
  (f_X4_isWithin M x1 (24 : Int32)).bind (fun r2 => (if r2 = 0 then (f_X4_refuse M (-2 : Int32)).bind (fun r7 => some (r7.1, r7.2)) else (f_X4_tallySure M).bind (fun r4 => if am_inb x1 25 = true then some ((r4.1 102 0 0 x1.toNatClampNeg), r4) else none)))
set_option maxHeartbeats 4000000 in
theorem w_X4_sure {K : am_K} {d : Nat} {post : Option am_V → am_M → Prop} {M : am_M} {x1 : Int32} {y : Int32 × am_M} (h : f_X4_sure M x1 = some y) (hp : post (some (.inl y.1)) y.2) : am_W K (d + 6) m_X4_sure 0 [(0, .inr (.inr (4, 0, 0))), (1, .inl x1)] [] M post := by
  unfold f_X4_sure at h
  refine am_iload_n dX4_sure_0 rfl ?_
  refine am_bipush dX4_sure_1 bp_24 ?_
  obtain ⟨r2, c1, h⟩ := am_bnd h
  refine am_callSi (as := [.inl x1, .inl (24 : Int32)]) dX4_sure_3 cs_RX4_54 cb_X4_isWithin rfl rfl (Nat.le_of_ble_eq_true rfl) (c_X4_isWithin c1) ?_
  refine am_if_ne 16 dX4_sure_6 rfl (fun b8 => ?_) (fun b8 => ?_)
  · replace h := am_ifF b8 h
    refine am_aload_n dX4_sure_16 rfl ?_
    obtain ⟨r4, c3, h⟩ := am_bnd h
    refine am_callVv (as := []) dX4_sure_17 cv_RX4_237 cb_X4_tallySure sh_4 rfl hk_4 rfl rfl (Nat.le_of_ble_eq_true rfl) (c_X4_tallySure c3) ?_
    refine am_aload_n dX4_sure_20 rfl ?_
    refine am_getR (o' := 0) dX4_sure_21 fl_RX4_25 sh_4 rfl rfl hk_4 ?_
    refine am_getR (o' := 0) dX4_sure_24 fl_RX4_224 sh_0 rfl rfl hk_0 ?_
    refine am_iload_n dX4_sure_27 rfl ?_
    obtain ⟨g5, h⟩ := am_grd h
    refine am_iaload dX4_sure_28 sh_102 hk_102 (am_inbE g5) ?_
    obtain rfl := Option.some.inj h
    exact am_ireturn dX4_sure_29 rfl rfl hp
  · replace h := am_ifT b8 h
    refine am_aload_n dX4_sure_9 rfl ?_
    refine am_bipush dX4_sure_10 bp_m2 ?_
    obtain ⟨r7, c6, h⟩ := am_bnd h
    refine am_callVi (as := [.inl (-2 : Int32)]) dX4_sure_12 cv_RX4_58 cb_X4_refuse sh_4 rfl hk_4 rfl rfl (Nat.le_of_ble_eq_true rfl) (c_X4_refuse c6) ?_
    obtain rfl := Option.some.inj h
    exact am_ireturn dX4_sure_15 rfl rfl hp
theorem c_X4_sure {K : am_K} {d : Nat} {M : am_M} {x1 : Int32} {y : Int32 × am_M} (h : f_X4_sure M x1 = some y) : am_Met K (d + 6) m_X4_sure [.inr (.inr (4, 0, 0)), .inl x1] M (fun q N => q = some (.inl y.1) ∧ N = y.2) :=
  am_Met_of cb_X4_sure (Nat.le_of_ble_eq_true rfl) (w_X4_sure h ⟨rfl, rfl⟩)
def f_X4_soFar (M : am_M) (x1 : Int32) (x2 : Int32) : Option (Int32 × am_M) :=
  (f_X4_isWithin M x1 (24 : Int32)).bind (fun r2 => (if r2 = 0 then (f_X4_refuse M (-2 : Int32)).bind (fun r4 => some (r4.1, r4.2)) else (f_X4_isWithin M x2 (24 : Int32)).bind (fun r6 => (if r6 = 0 then (f_X4_refuse M (-2 : Int32)).bind (fun r15 => some (r15.1, r15.2)) else (f_X0_layFitting M 0).bind (fun r8 => (if x1 ≤ (r8.1 0 0 0 0) then (f_X0_keepAt r8 x1 x2).bind (fun r10 => (f_X0_countRows r10).bind (fun r12 => some (r12.1, r12.2))) else some ((0 : Int32), r8)))))))
set_option maxHeartbeats 4000000 in
theorem w_X4_soFar {K : am_K} {d : Nat} {post : Option am_V → am_M → Prop} {M : am_M} {x1 : Int32} {x2 : Int32} {y : Int32 × am_M} (h : f_X4_soFar M x1 x2 = some y) (hp : post (some (.inl y.1)) y.2) : am_W K (d + 5) m_X4_soFar 0 [(0, .inr (.inr (4, 0, 0))), (1, .inl x1), (2, .inl x2)] [] M post := by
  unfold f_X4_soFar at h
  refine am_iload_n dX4_soFar_0 rfl ?_
  refine am_bipush dX4_soFar_1 bp_24 ?_
  obtain ⟨r2, c1, h⟩ := am_bnd h
  refine am_callSi (as := [.inl x1, .inl (24 : Int32)]) dX4_soFar_3 cs_RX4_54 cb_X4_isWithin rfl rfl (Nat.le_of_ble_eq_true rfl) (c_X4_isWithin c1) ?_
  refine am_if_eq 18 dX4_soFar_6 rfl (fun b17 => ?_) (fun b17 => ?_)
  · replace h := am_ifT b17 h
    refine am_aload_n dX4_soFar_18 rfl ?_
    refine am_bipush dX4_soFar_19 bp_m2 ?_
    obtain ⟨r4, c3, h⟩ := am_bnd h
    refine am_callVi (as := [.inl (-2 : Int32)]) dX4_soFar_21 cv_RX4_58 cb_X4_refuse sh_4 rfl hk_4 rfl rfl (Nat.le_of_ble_eq_true rfl) (c_X4_refuse c3) ?_
    obtain rfl := Option.some.inj h
    exact am_ireturn dX4_soFar_24 rfl rfl hp
  · replace h := am_ifF b17 h
    refine am_iload_n dX4_soFar_9 rfl ?_
    refine am_bipush dX4_soFar_10 bp_24 ?_
    obtain ⟨r6, c5, h⟩ := am_bnd h
    refine am_callSi (as := [.inl x2, .inl (24 : Int32)]) dX4_soFar_12 cs_RX4_54 cb_X4_isWithin rfl rfl (Nat.le_of_ble_eq_true rfl) (c_X4_isWithin c5) ?_
    refine am_if_ne 25 dX4_soFar_15 rfl (fun b16 => ?_) (fun b16 => ?_)
    · replace h := am_ifF b16 h
      refine am_aload_n dX4_soFar_25 rfl ?_
      refine am_getR (o' := 0) dX4_soFar_26 fl_RX4_25 sh_4 rfl rfl hk_4 ?_
      refine am_aload_n dX4_soFar_29 rfl ?_
      refine am_getR (o' := 0) dX4_soFar_30 fl_RX4_12 sh_4 rfl rfl hk_4 ?_
      obtain ⟨r8, c7, h⟩ := am_bnd h
      refine am_callVv (as := [.inr (.inr (1, 0, 0))]) dX4_soFar_33 cv_RX4_209 cb_X0_layFitting sh_0 rfl hk_0 rfl rfl (Nat.le_of_ble_eq_true rfl) (c_X0_layFitting c7) ?_
      refine am_iload_n dX4_soFar_36 rfl ?_
      refine am_aload_n dX4_soFar_37 rfl ?_
      refine am_getR (o' := 0) dX4_soFar_38 fl_RX4_25 sh_4 rfl rfl hk_4 ?_
      refine am_getI dX4_soFar_41 fl_RX4_215 sh_0 rfl hk_0 ?_
      refine am_icmp_le 49 dX4_soFar_44 rfl (fun b13 => ?_) (fun b13 => ?_)
      · replace h := am_ifT b13 h
        refine am_aload_n dX4_soFar_49 rfl ?_
        refine am_getR (o' := 0) dX4_soFar_50 fl_RX4_25 sh_4 rfl rfl hk_4 ?_
        refine am_iload_n dX4_soFar_53 rfl ?_
        refine am_iload_n dX4_soFar_54 rfl ?_
        obtain ⟨r10, c9, h⟩ := am_bnd h
        refine am_callVv (as := [.inl x1, .inl x2]) dX4_soFar_55 cv_RX4_240 cb_X0_keepAt sh_0 rfl hk_0 rfl rfl (Nat.le_of_ble_eq_true rfl) (c_X0_keepAt c9) ?_
        refine am_aload_n dX4_soFar_58 rfl ?_
        refine am_getR (o' := 0) dX4_soFar_59 fl_RX4_25 sh_4 rfl rfl hk_4 ?_
        obtain ⟨r12, c11, h⟩ := am_bnd h
        refine am_callVi (as := []) dX4_soFar_62 cv_RX4_206 cb_X0_countRows sh_0 rfl hk_0 rfl rfl (Nat.le_of_ble_eq_true rfl) (c_X0_countRows c11) ?_
        obtain rfl := Option.some.inj h
        exact am_ireturn dX4_soFar_65 rfl rfl hp
      · replace h := am_ifF b13 h
        refine am_iconst dX4_soFar_47 ic_0 ?_
        obtain rfl := Option.some.inj h
        exact am_ireturn dX4_soFar_48 rfl rfl hp
    · replace h := am_ifT b16 h
      refine am_aload_n dX4_soFar_18 rfl ?_
      refine am_bipush dX4_soFar_19 bp_m2 ?_
      obtain ⟨r15, c14, h⟩ := am_bnd h
      refine am_callVi (as := [.inl (-2 : Int32)]) dX4_soFar_21 cv_RX4_58 cb_X4_refuse sh_4 rfl hk_4 rfl rfl (Nat.le_of_ble_eq_true rfl) (c_X4_refuse c14) ?_
      obtain rfl := Option.some.inj h
      exact am_ireturn dX4_soFar_24 rfl rfl hp
theorem c_X4_soFar {K : am_K} {d : Nat} {M : am_M} {x1 : Int32} {x2 : Int32} {y : Int32 × am_M} (h : f_X4_soFar M x1 x2 = some y) : am_Met K (d + 5) m_X4_soFar [.inr (.inr (4, 0, 0)), .inl x1, .inl x2] M (fun q N => q = some (.inl y.1) ∧ N = y.2) :=
  am_Met_of cb_X4_soFar (Nat.le_of_ble_eq_true rfl) (w_X4_soFar h ⟨rfl, rfl⟩)
def f_X4_spent (M : am_M)  : Option (Int64 × am_M) :=
  (f_X0_layFitting M 0).bind (fun r2 => (f_X0_markAhead r2).bind (fun r4 => (f_X0_sumMarks r4).bind (fun r6 => some (r6.1, r6.2))))
set_option maxHeartbeats 4000000 in
theorem w_X4_spent {K : am_K} {d : Nat} {post : Option am_V → am_M → Prop} {M : am_M}  {y : Int64 × am_M} (h : f_X4_spent M  = some y) (hp : post (some (.inr (.inl y.1))) y.2) : am_W K (d + 5) m_X4_spent 0 [(0, .inr (.inr (4, 0, 0)))] [] M post := by
  unfold f_X4_spent at h
  refine am_aload_n dX4_spent_0 rfl ?_
  refine am_getR (o' := 0) dX4_spent_1 fl_RX4_25 sh_4 rfl rfl hk_4 ?_
  refine am_aload_n dX4_spent_4 rfl ?_
  refine am_getR (o' := 0) dX4_spent_5 fl_RX4_12 sh_4 rfl rfl hk_4 ?_
  obtain ⟨r2, c1, h⟩ := am_bnd h
  refine am_callVv (as := [.inr (.inr (1, 0, 0))]) dX4_spent_8 cv_RX4_209 cb_X0_layFitting sh_0 rfl hk_0 rfl rfl (Nat.le_of_ble_eq_true rfl) (c_X0_layFitting c1) ?_
  refine am_aload_n dX4_spent_11 rfl ?_
  refine am_getR (o' := 0) dX4_spent_12 fl_RX4_25 sh_4 rfl rfl hk_4 ?_
  obtain ⟨r4, c3, h⟩ := am_bnd h
  refine am_callVv (as := []) dX4_spent_15 cv_RX4_243 cb_X0_markAhead sh_0 rfl hk_0 rfl rfl (Nat.le_of_ble_eq_true rfl) (c_X0_markAhead c3) ?_
  refine am_aload_n dX4_spent_18 rfl ?_
  refine am_getR (o' := 0) dX4_spent_19 fl_RX4_25 sh_4 rfl rfl hk_4 ?_
  obtain ⟨r6, c5, h⟩ := am_bnd h
  refine am_callVl (as := []) dX4_spent_22 cv_RX4_246 cb_X0_sumMarks sh_0 rfl hk_0 rfl rfl (Nat.le_of_ble_eq_true rfl) (c_X0_sumMarks c5) ?_
  obtain rfl := Option.some.inj h
  exact am_lreturn dX4_spent_25 rfl hp
theorem c_X4_spent {K : am_K} {d : Nat} {M : am_M}  {y : Int64 × am_M} (h : f_X4_spent M  = some y) : am_Met K (d + 5) m_X4_spent [.inr (.inr (4, 0, 0))] M (fun q N => q = some (.inr (.inl y.1)) ∧ N = y.2) :=
  am_Met_of cb_X4_spent (Nat.le_of_ble_eq_true rfl) (w_X4_spent h ⟨rfl, rfl⟩)
def f_X4_mean (M : am_M)  : Option (Int64 × am_M) :=
  (f_X0_layFitting M 0).bind (fun r2 => (f_X0_markUnsure r2).bind (fun r4 => (f_X0_sumMarks r4).bind (fun r6 => some (r6.1, r6.2))))
set_option maxHeartbeats 4000000 in
theorem w_X4_mean {K : am_K} {d : Nat} {post : Option am_V → am_M → Prop} {M : am_M}  {y : Int64 × am_M} (h : f_X4_mean M  = some y) (hp : post (some (.inr (.inl y.1))) y.2) : am_W K (d + 5) m_X4_mean 0 [(0, .inr (.inr (4, 0, 0)))] [] M post := by
  unfold f_X4_mean at h
  refine am_aload_n dX4_mean_0 rfl ?_
  refine am_getR (o' := 0) dX4_mean_1 fl_RX4_25 sh_4 rfl rfl hk_4 ?_
  refine am_aload_n dX4_mean_4 rfl ?_
  refine am_getR (o' := 0) dX4_mean_5 fl_RX4_12 sh_4 rfl rfl hk_4 ?_
  obtain ⟨r2, c1, h⟩ := am_bnd h
  refine am_callVv (as := [.inr (.inr (1, 0, 0))]) dX4_mean_8 cv_RX4_209 cb_X0_layFitting sh_0 rfl hk_0 rfl rfl (Nat.le_of_ble_eq_true rfl) (c_X0_layFitting c1) ?_
  refine am_aload_n dX4_mean_11 rfl ?_
  refine am_getR (o' := 0) dX4_mean_12 fl_RX4_25 sh_4 rfl rfl hk_4 ?_
  obtain ⟨r4, c3, h⟩ := am_bnd h
  refine am_callVv (as := []) dX4_mean_15 cv_RX4_200 cb_X0_markUnsure sh_0 rfl hk_0 rfl rfl (Nat.le_of_ble_eq_true rfl) (c_X0_markUnsure c3) ?_
  refine am_aload_n dX4_mean_18 rfl ?_
  refine am_getR (o' := 0) dX4_mean_19 fl_RX4_25 sh_4 rfl rfl hk_4 ?_
  obtain ⟨r6, c5, h⟩ := am_bnd h
  refine am_callVl (as := []) dX4_mean_22 cv_RX4_246 cb_X0_sumMarks sh_0 rfl hk_0 rfl rfl (Nat.le_of_ble_eq_true rfl) (c_X0_sumMarks c5) ?_
  obtain rfl := Option.some.inj h
  exact am_lreturn dX4_mean_25 rfl hp
theorem c_X4_mean {K : am_K} {d : Nat} {M : am_M}  {y : Int64 × am_M} (h : f_X4_mean M  = some y) : am_Met K (d + 5) m_X4_mean [.inr (.inr (4, 0, 0))] M (fun q N => q = some (.inr (.inl y.1)) ∧ N = y.2) :=
  am_Met_of cb_X4_mean (Nat.le_of_ble_eq_true rfl) (w_X4_mean h ⟨rfl, rfl⟩)
def f_X4_price (M : am_M) (x1 : Int32) : Option (Int32 × am_M) :=
  (f_X4_isWithin M x1 (9 : Int32)).bind (fun r2 => (if r2 = 0 then (f_X4_refuse M (-2 : Int32)).bind (fun r15 => some (r15.1, r15.2)) else (f_X0_layFitting M 0).bind (fun r4 => (f_X0_countRows r4).bind (fun r6 => am_let r6.1 (fun v7 => (if v7 = 0 then (f_X4_refuse r6.2 (-5 : Int32)).bind (fun r12 => some (r12.1, r12.2)) else (f_X4_fittingAhead r6.2 x1).bind (fun r9 => if ¬ v7.toInt64 = 0 then some ((((1000 : Int64) * r9.1.toInt64) / v7.toInt64).toInt32, r9.2) else none)))))))
set_option maxHeartbeats 4000000 in
theorem w_X4_price {K : am_K} {d : Nat} {post : Option am_V → am_M → Prop} {M : am_M} {x1 : Int32} {y : Int32 × am_M} (h : f_X4_price M x1 = some y) (hp : post (some (.inl y.1)) y.2) : am_W K (d + 6) m_X4_price 0 [(0, .inr (.inr (4, 0, 0))), (1, .inl x1)] [] M post := by
  unfold f_X4_price at h
  refine am_iload_n dX4_price_0 rfl ?_
  refine am_bipush dX4_price_1 bp_9 ?_
  obtain ⟨r2, c1, h⟩ := am_bnd h
  refine am_callSi (as := [.inl x1, .inl (9 : Int32)]) dX4_price_3 cs_RX4_54 cb_X4_isWithin rfl rfl (Nat.le_of_ble_eq_true rfl) (c_X4_isWithin c1) ?_
  refine am_if_ne 16 dX4_price_6 rfl (fun b16 => ?_) (fun b16 => ?_)
  · replace h := am_ifF b16 h
    refine am_aload_n dX4_price_16 rfl ?_
    refine am_getR (o' := 0) dX4_price_17 fl_RX4_25 sh_4 rfl rfl hk_4 ?_
    refine am_aload_n dX4_price_20 rfl ?_
    refine am_getR (o' := 0) dX4_price_21 fl_RX4_12 sh_4 rfl rfl hk_4 ?_
    obtain ⟨r4, c3, h⟩ := am_bnd h
    refine am_callVv (as := [.inr (.inr (1, 0, 0))]) dX4_price_24 cv_RX4_209 cb_X0_layFitting sh_0 rfl hk_0 rfl rfl (Nat.le_of_ble_eq_true rfl) (c_X0_layFitting c3) ?_
    refine am_aload_n dX4_price_27 rfl ?_
    refine am_getR (o' := 0) dX4_price_28 fl_RX4_25 sh_4 rfl rfl hk_4 ?_
    obtain ⟨r6, c5, h⟩ := am_bnd h
    refine am_callVi (as := []) dX4_price_31 cv_RX4_206 cb_X0_countRows sh_0 rfl hk_0 rfl rfl (Nat.le_of_ble_eq_true rfl) (c_X0_countRows c5) ?_
    obtain ⟨v7, ev7, h⟩ := am_letE h
    refine am_topI ev7 ?_
    refine am_istore_n (ls' := [(0, .inr (.inr (4, 0, 0))), (1, .inl x1), (2, .inl v7)]) dX4_price_34 (Nat.le_of_ble_eq_true rfl) rfl ?_
    refine am_iload_n dX4_price_35 rfl ?_
    refine am_if_ne 46 dX4_price_36 rfl (fun b13 => ?_) (fun b13 => ?_)
    · replace h := am_ifF b13 h
      refine am_ldc2 dX4_price_46 kc_RX4_250 ?_
      refine am_aload_n dX4_price_49 rfl ?_
      refine am_iload_n dX4_price_50 rfl ?_
      obtain ⟨r9, c8, h⟩ := am_bnd h
      refine am_callVi (as := [.inl x1]) dX4_price_51 cv_RX4_212 cb_X4_fittingAhead sh_4 rfl hk_4 rfl rfl (Nat.le_of_ble_eq_true rfl) (c_X4_fittingAhead c8) ?_
      refine am_i2l dX4_price_54 ?_
      refine am_lmul dX4_price_55 ?_
      refine am_iload_n dX4_price_56 rfl ?_
      refine am_i2l dX4_price_57 ?_
      obtain ⟨g10, h⟩ := am_grd h
      refine am_ldiv dX4_price_58 g10 ?_
      refine am_l2i dX4_price_59 ?_
      obtain rfl := Option.some.inj h
      exact am_ireturn dX4_price_60 rfl rfl hp
    · replace h := am_ifT b13 h
      refine am_aload_n dX4_price_39 rfl ?_
      refine am_bipush dX4_price_40 bp_m5 ?_
      obtain ⟨r12, c11, h⟩ := am_bnd h
      refine am_callVi (as := [.inl (-5 : Int32)]) dX4_price_42 cv_RX4_58 cb_X4_refuse sh_4 rfl hk_4 rfl rfl (Nat.le_of_ble_eq_true rfl) (c_X4_refuse c11) ?_
      obtain rfl := Option.some.inj h
      exact am_ireturn dX4_price_45 rfl rfl hp
  · replace h := am_ifT b16 h
    refine am_aload_n dX4_price_9 rfl ?_
    refine am_bipush dX4_price_10 bp_m2 ?_
    obtain ⟨r15, c14, h⟩ := am_bnd h
    refine am_callVi (as := [.inl (-2 : Int32)]) dX4_price_12 cv_RX4_58 cb_X4_refuse sh_4 rfl hk_4 rfl rfl (Nat.le_of_ble_eq_true rfl) (c_X4_refuse c14) ?_
    obtain rfl := Option.some.inj h
    exact am_ireturn dX4_price_15 rfl rfl hp
theorem c_X4_price {K : am_K} {d : Nat} {M : am_M} {x1 : Int32} {y : Int32 × am_M} (h : f_X4_price M x1 = some y) : am_Met K (d + 6) m_X4_price [.inr (.inr (4, 0, 0)), .inl x1] M (fun q N => q = some (.inl y.1) ∧ N = y.2) :=
  am_Met_of cb_X4_price (Nat.le_of_ble_eq_true rfl) (w_X4_price h ⟨rfl, rfl⟩)
