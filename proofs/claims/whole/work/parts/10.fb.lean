def f_X0_countRows (M : am_M)  : Option (Int32 × am_M) :=
  (f_X0_walk M).bind (fun r2 => if am_inb (r2.1 0 0 0 1) 25 = true then some ((r2.1 105 0 0 (r2.1 0 0 0 1).toNatClampNeg), r2) else none)
set_option maxHeartbeats 4000000 in
theorem w_X0_countRows {K : am_K} {d : Nat} {post : Option am_V → am_M → Prop} {M : am_M}  {y : Int32 × am_M} (h : f_X0_countRows M  = some y) (hp : post (some (.inl y.1)) y.2) : am_W K (d + 2) m_X0_countRows 0 [(0, .inr (.inr (0, 0, 0)))] [] M post := by
  unfold f_X0_countRows at h
  refine am_aload_n dX0_countRows_0 rfl ?_
  obtain ⟨r2, c1, h⟩ := am_bnd h
  refine am_callVv (as := []) dX0_countRows_1 cv_RX0_131 cb_X0_walk sh_0 rfl hk_0 rfl rfl (Nat.le_of_ble_eq_true rfl) (c_X0_walk c1) ?_
  refine am_aload_n dX0_countRows_4 rfl ?_
  refine am_getR (o' := 0) dX0_countRows_5 fl_RX0_21 sh_0 rfl rfl hk_0 ?_
  refine am_aload_n dX0_countRows_8 rfl ?_
  refine am_getI dX0_countRows_9 fl_RX0_91 sh_0 rfl hk_0 ?_
  obtain ⟨g3, h⟩ := am_grd h
  refine am_iaload dX0_countRows_12 sh_105 hk_105 (am_inbE g3) ?_
  obtain rfl := Option.some.inj h
  exact am_ireturn dX0_countRows_13 rfl rfl hp
theorem c_X0_countRows {K : am_K} {d : Nat} {M : am_M}  {y : Int32 × am_M} (h : f_X0_countRows M  = some y) : am_Met K (d + 2) m_X0_countRows [.inr (.inr (0, 0, 0))] M (fun q N => q = some (.inl y.1) ∧ N = y.2) :=
  am_Met_of cb_X0_countRows (Nat.le_of_ble_eq_true rfl) (w_X0_countRows h ⟨rfl, rfl⟩)
def f_X0_sumMarks (M : am_M)  : Option (Int64 × am_M) :=
  (f_X0_walk M).bind (fun r2 => if am_inb (r2.1 0 0 0 1) 25 = true then some ((r2.2 106 0 0 (r2.1 0 0 0 1).toNatClampNeg), r2) else none)
set_option maxHeartbeats 4000000 in
theorem w_X0_sumMarks {K : am_K} {d : Nat} {post : Option am_V → am_M → Prop} {M : am_M}  {y : Int64 × am_M} (h : f_X0_sumMarks M  = some y) (hp : post (some (.inr (.inl y.1))) y.2) : am_W K (d + 2) m_X0_sumMarks 0 [(0, .inr (.inr (0, 0, 0)))] [] M post := by
  unfold f_X0_sumMarks at h
  refine am_aload_n dX0_sumMarks_0 rfl ?_
  obtain ⟨r2, c1, h⟩ := am_bnd h
  refine am_callVv (as := []) dX0_sumMarks_1 cv_RX0_131 cb_X0_walk sh_0 rfl hk_0 rfl rfl (Nat.le_of_ble_eq_true rfl) (c_X0_walk c1) ?_
  refine am_aload_n dX0_sumMarks_4 rfl ?_
  refine am_getR (o' := 0) dX0_sumMarks_5 fl_RX0_24 sh_0 rfl rfl hk_0 ?_
  refine am_aload_n dX0_sumMarks_8 rfl ?_
  refine am_getI dX0_sumMarks_9 fl_RX0_91 sh_0 rfl hk_0 ?_
  obtain ⟨g3, h⟩ := am_grd h
  refine am_laload dX0_sumMarks_12 sh_106 hk_106 (am_inbE g3) ?_
  obtain rfl := Option.some.inj h
  exact am_lreturn dX0_sumMarks_13 rfl hp
theorem c_X0_sumMarks {K : am_K} {d : Nat} {M : am_M}  {y : Int64 × am_M} (h : f_X0_sumMarks M  = some y) : am_Met K (d + 2) m_X0_sumMarks [.inr (.inr (0, 0, 0))] M (fun q N => q = some (.inr (.inl y.1)) ∧ N = y.2) :=
  am_Met_of cb_X0_sumMarks (Nat.le_of_ble_eq_true rfl) (w_X0_sumMarks h ⟨rfl, rfl⟩)
def l_X0_tallyInto_42 (a2 : Int32) (a4 : Int32) (a5 : Int32) (a6 : Int32) : Nat → Int32 → am_M → Option (am_M)
  | 0, _, _ => none
  | n + 1, a7, M => (if a7 < 0 then some M else ((if a5 = 0 then some (0 : Int32) else if am_inb (a4 + a7) 625 = true then ((if a2 ≤ 0 then some (0 : Int32) else if am_inb ((a4 - (25 : Int32)) + a7) 625 = true then some (M.1 107 0 0 ((a4 - (25 : Int32)) + a7).toNatClampNeg) else none) : Option (Int32)).bind (fun z13 => am_let ((M.1 107 0 0 (a4 + a7).toNatClampNeg) + z13) (fun v18 => some v18)) else none) : Option (Int32)).bind (fun z9 => if am_inb (a4 + a7) 625 = true then am_let (am_si M 107 0 0 (a4 + a7).toNatClampNeg (0 : Int32)) (fun M21 => ((if (25 : Int32) ≤ (a7 + a6) then some M21 else if am_inb ((a4 + a7) + a6) 625 = true then am_let (am_si M21 107 0 0 ((a4 + a7) + a6).toNatClampNeg z9) (fun M26 => some M26) else none) : Option (am_M)).bind (fun z22 => am_let (a7 + (-1 : Int32)) (fun v28 => l_X0_tallyInto_42 a2 a4 a5 a6 n v28 z22))) else none))
set_option maxHeartbeats 4000000 in
theorem wl_X0_tallyInto_42 {K : am_K} {d : Nat} {post : Option am_V → am_M → Prop} {a2 : Int32} {a4 : Int32} {a5 : Int32} {a6 : Int32} : ∀ (n : Nat) (a7 : Int32) (M : am_M) (x : am_M), l_X0_tallyInto_42 a2 a4 a5 a6 n a7 M = some x → am_W K d m_X0_tallyInto 131 [] [] x post → am_W K d m_X0_tallyInto 42 [(0, .inr (.inr (0, 0, 0))), (2, .inl a2), (4, .inl a4), (5, .inl a5), (6, .inl a6), (7, .inl a7)] [] M post := by
  intro n
  induction n with
  | zero => intro a7 M x h KX; cases h
  | succ n ih =>
    intro a7 M x h KX
    rw [l_X0_tallyInto_42] at h
    refine am_iload dX0_tallyInto_42 rfl ?_
    refine am_if_lt 131 dX0_tallyInto_44 rfl (fun b29 => ?_) (fun b29 => ?_)
    · replace h := am_ifT b29 h
      obtain rfl := Option.some.inj h
      exact am_drop [] rfl KX
    · replace h := am_ifF b29 h
      refine am_iconst dX0_tallyInto_47 ic_0 ?_
      refine am_istore (ls' := [(0, .inr (.inr (0, 0, 0))), (2, .inl a2), (4, .inl a4), (5, .inl a5), (6, .inl a6), (7, .inl a7), (8, .inl (0 : Int32))]) dX0_tallyInto_48 (Nat.le_of_ble_eq_true rfl) rfl ?_
      refine am_iload dX0_tallyInto_50 rfl ?_
      obtain ⟨z9, h10, h⟩ := am_bnd h
      have KK11 : am_W K d m_X0_tallyInto 89 [(0, .inr (.inr (0, 0, 0))), (2, .inl a2), (4, .inl a4), (5, .inl a5), (6, .inl a6), (7, .inl a7), (8, .inl z9)] [] M post := by
        refine am_aload_n dX0_tallyInto_89 rfl ?_
        refine am_getR (o' := 0) dX0_tallyInto_90 fl_RX0_28 sh_0 rfl rfl hk_0 ?_
        refine am_iload dX0_tallyInto_93 rfl ?_
        refine am_iload dX0_tallyInto_95 rfl ?_
        refine am_iadd dX0_tallyInto_97 ?_
        refine am_iconst dX0_tallyInto_98 ic_0 ?_
        obtain ⟨g20, h⟩ := am_grd h
        obtain ⟨M21, eM21, h⟩ := am_letE h
        refine am_iastore dX0_tallyInto_99 sh_107 hk_107 (am_inbE g20) ?_
        refine am_mem eM21 ?_
        refine am_iload dX0_tallyInto_100 rfl ?_
        refine am_iload dX0_tallyInto_102 rfl ?_
        refine am_iadd dX0_tallyInto_104 ?_
        refine am_bipush dX0_tallyInto_105 bp_25 ?_
        obtain ⟨z22, h23, h⟩ := am_bnd h
        have KK24 : am_W K d m_X0_tallyInto 125 [(0, .inr (.inr (0, 0, 0))), (2, .inl a2), (4, .inl a4), (5, .inl a5), (6, .inl a6), (7, .inl a7)] [] z22 post := by
          obtain ⟨v28, ev28, h⟩ := am_letE h
          refine am_iinc (ls' := [(0, .inr (.inr (0, 0, 0))), (2, .inl a2), (4, .inl a4), (5, .inl a5), (6, .inl a6), (7, .inl v28)]) dX0_tallyInto_125 rfl ((congrArg (fun z => a7 + z) ic_m1).trans ev28.symm) (Nat.le_of_ble_eq_true rfl) rfl ?_
          refine am_goto 42 dX0_tallyInto_128 rfl ?_
          exact am_drop [0, 2, 4, 5, 6, 7] rfl (ih _ _ _ h KX)
        clear h
        refine am_icmp_ge 125 dX0_tallyInto_107 rfl (fun b27 => ?_) (fun b27 => ?_)
        · replace h23 := am_ifT b27 h23
          obtain rfl := Option.some.inj h23
          exact am_drop [0, 2, 4, 5, 6, 7] rfl KK24
        · replace h23 := am_ifF b27 h23
          refine am_aload_n dX0_tallyInto_110 rfl ?_
          refine am_getR (o' := 0) dX0_tallyInto_111 fl_RX0_28 sh_0 rfl rfl hk_0 ?_
          refine am_iload dX0_tallyInto_114 rfl ?_
          refine am_iload dX0_tallyInto_116 rfl ?_
          refine am_iadd dX0_tallyInto_118 ?_
          refine am_iload dX0_tallyInto_119 rfl ?_
          refine am_iadd dX0_tallyInto_121 ?_
          refine am_iload dX0_tallyInto_122 rfl ?_
          obtain ⟨g25, h23⟩ := am_grd h23
          obtain ⟨M26, eM26, h23⟩ := am_letE h23
          refine am_iastore dX0_tallyInto_124 sh_107 hk_107 (am_inbE g25) ?_
          refine am_mem eM26 ?_
          obtain rfl := Option.some.inj h23
          exact am_drop [0, 2, 4, 5, 6, 7] rfl KK24
      clear h
      refine am_if_eq 89 dX0_tallyInto_52 rfl (fun b19 => ?_) (fun b19 => ?_)
      · replace h10 := am_ifT b19 h10
        obtain rfl := Option.some.inj h10
        exact am_drop [0, 2, 4, 5, 6, 7, 8] rfl KK11
      · replace h10 := am_ifF b19 h10
        refine am_aload_n dX0_tallyInto_55 rfl ?_
        refine am_getR (o' := 0) dX0_tallyInto_56 fl_RX0_28 sh_0 rfl rfl hk_0 ?_
        refine am_iload dX0_tallyInto_59 rfl ?_
        refine am_iload dX0_tallyInto_61 rfl ?_
        refine am_iadd dX0_tallyInto_63 ?_
        obtain ⟨g12, h10⟩ := am_grd h10
        refine am_iaload dX0_tallyInto_64 sh_107 hk_107 (am_inbE g12) ?_
        refine am_iload_n dX0_tallyInto_65 rfl ?_
        obtain ⟨z13, h14, h10⟩ := am_bnd h10
        have KK15 : am_W K d m_X0_tallyInto 86 [(0, .inr (.inr (0, 0, 0))), (2, .inl a2), (4, .inl a4), (5, .inl a5), (6, .inl a6), (7, .inl a7)] [.inl z13, .inl (M.1 107 0 0 (a4 + a7).toNatClampNeg)] M post := by
          refine am_iadd dX0_tallyInto_86 ?_
          obtain ⟨v18, ev18, h10⟩ := am_letE h10
          refine am_topI ev18 ?_
          refine am_istore (ls' := [(0, .inr (.inr (0, 0, 0))), (2, .inl a2), (4, .inl a4), (5, .inl a5), (6, .inl a6), (7, .inl a7), (8, .inl v18)]) dX0_tallyInto_87 (Nat.le_of_ble_eq_true rfl) rfl ?_
          obtain rfl := Option.some.inj h10
          exact am_drop [0, 2, 4, 5, 6, 7, 8] rfl KK11
        clear h10
        refine am_if_le 85 dX0_tallyInto_66 rfl (fun b17 => ?_) (fun b17 => ?_)
        · replace h14 := am_ifT b17 h14
          refine am_iconst dX0_tallyInto_85 ic_0 ?_
          obtain rfl := Option.some.inj h14
          exact am_drop [0, 2, 4, 5, 6, 7] rfl KK15
        · replace h14 := am_ifF b17 h14
          refine am_aload_n dX0_tallyInto_69 rfl ?_
          refine am_getR (o' := 0) dX0_tallyInto_70 fl_RX0_28 sh_0 rfl rfl hk_0 ?_
          refine am_iload dX0_tallyInto_73 rfl ?_
          refine am_bipush dX0_tallyInto_75 bp_25 ?_
          refine am_isub dX0_tallyInto_77 ?_
          refine am_iload dX0_tallyInto_78 rfl ?_
          refine am_iadd dX0_tallyInto_80 ?_
          obtain ⟨g16, h14⟩ := am_grd h14
          refine am_iaload dX0_tallyInto_81 sh_107 hk_107 (am_inbE g16) ?_
          refine am_goto 86 dX0_tallyInto_82 rfl ?_
          obtain rfl := Option.some.inj h14
          exact am_drop [0, 2, 4, 5, 6, 7] rfl KK15
def f_X0_tallyInto (M : am_M) (x1 : Int32) (x2 : Int32) (x3 : Int32) : Option (am_M) :=
  am_let (x2 * (25 : Int32)) (fun v1 => if am_inb x1 25 = true then ((if (((M.1 103 0 0 x1.toNatClampNeg) >>> (x2 &&& 31)) &&& (1 : Int32)) = (1 : Int32) then some (1 : Int32) else some (0 : Int32)) : Option (Int32)).bind (fun z3 => if am_inb x1 25 = true then am_let (((M.1 104 0 0 x1.toNatClampNeg) >>> (x2 &&& 31)) &&& (1 : Int32)) (fun v8 => (l_X0_tallyInto_42 x2 v1 z3 v8 1000 x3 M).bind (fun z30 => some z30)) else none) else none)
set_option maxHeartbeats 4000000 in
theorem w_X0_tallyInto {K : am_K} {d : Nat} {post : Option am_V → am_M → Prop} {M : am_M} {x1 : Int32} {x2 : Int32} {x3 : Int32} {y : am_M} (h : f_X0_tallyInto M x1 x2 x3 = some y) (hp : post none y) : am_W K d m_X0_tallyInto 0 [(0, .inr (.inr (0, 0, 0))), (1, .inl x1), (2, .inl x2), (3, .inl x3)] [] M post := by
  unfold f_X0_tallyInto at h
  refine am_iload_n dX0_tallyInto_0 rfl ?_
  refine am_bipush dX0_tallyInto_1 bp_25 ?_
  refine am_imul dX0_tallyInto_3 ?_
  obtain ⟨v1, ev1, h⟩ := am_letE h
  refine am_topI ev1 ?_
  refine am_istore (ls' := [(0, .inr (.inr (0, 0, 0))), (1, .inl x1), (2, .inl x2), (3, .inl x3), (4, .inl v1)]) dX0_tallyInto_4 (Nat.le_of_ble_eq_true rfl) rfl ?_
  refine am_aload_n dX0_tallyInto_6 rfl ?_
  refine am_getR (o' := 0) dX0_tallyInto_7 fl_RX0_15 sh_0 rfl rfl hk_0 ?_
  refine am_iload_n dX0_tallyInto_10 rfl ?_
  obtain ⟨g2, h⟩ := am_grd h
  refine am_iaload dX0_tallyInto_11 sh_103 hk_103 (am_inbE g2) ?_
  refine am_iload_n dX0_tallyInto_12 rfl ?_
  refine am_ishr dX0_tallyInto_13 ?_
  refine am_iconst dX0_tallyInto_14 ic_1 ?_
  refine am_iand dX0_tallyInto_15 ?_
  refine am_iconst dX0_tallyInto_16 ic_1 ?_
  obtain ⟨z3, h4, h⟩ := am_bnd h
  have KK5 : am_W K d m_X0_tallyInto 25 [(0, .inr (.inr (0, 0, 0))), (1, .inl x1), (2, .inl x2), (3, .inl x3), (4, .inl v1)] [.inl z3] M post := by
    refine am_istore (ls' := [(0, .inr (.inr (0, 0, 0))), (1, .inl x1), (2, .inl x2), (3, .inl x3), (4, .inl v1), (5, .inl z3)]) dX0_tallyInto_25 (Nat.le_of_ble_eq_true rfl) rfl ?_
    refine am_aload_n dX0_tallyInto_27 rfl ?_
    refine am_getR (o' := 0) dX0_tallyInto_28 fl_RX0_18 sh_0 rfl rfl hk_0 ?_
    refine am_iload_n dX0_tallyInto_31 rfl ?_
    obtain ⟨g7, h⟩ := am_grd h
    refine am_iaload dX0_tallyInto_32 sh_104 hk_104 (am_inbE g7) ?_
    refine am_iload_n dX0_tallyInto_33 rfl ?_
    refine am_ishr dX0_tallyInto_34 ?_
    refine am_iconst dX0_tallyInto_35 ic_1 ?_
    refine am_iand dX0_tallyInto_36 ?_
    obtain ⟨v8, ev8, h⟩ := am_letE h
    refine am_topI ev8 ?_
    refine am_istore (ls' := [(0, .inr (.inr (0, 0, 0))), (1, .inl x1), (2, .inl x2), (3, .inl x3), (4, .inl v1), (5, .inl z3), (6, .inl v8)]) dX0_tallyInto_37 (Nat.le_of_ble_eq_true rfl) rfl ?_
    refine am_iload_n dX0_tallyInto_39 rfl ?_
    refine am_istore (ls' := [(0, .inr (.inr (0, 0, 0))), (1, .inl x1), (2, .inl x2), (3, .inl x3), (4, .inl v1), (5, .inl z3), (6, .inl v8), (7, .inl x3)]) dX0_tallyInto_40 (Nat.le_of_ble_eq_true rfl) rfl ?_
    obtain ⟨z30, h31, h⟩ := am_bnd h
    have KK32 : am_W K d m_X0_tallyInto 131 [] [] z30 post := by
      obtain rfl := Option.some.inj h
      exact am_return dX0_tallyInto_131 rfl hp
    exact am_drop [0, 2, 4, 5, 6, 7] rfl (wl_X0_tallyInto_42 _ _ _ _ h31 KK32)
  clear h
  refine am_icmp_ne 24 dX0_tallyInto_17 rfl (fun b6 => ?_) (fun b6 => ?_)
  · replace h4 := am_ifF b6 h4
    refine am_iconst dX0_tallyInto_24 ic_0 ?_
    obtain rfl := Option.some.inj h4
    exact am_drop [0, 1, 2, 3, 4] rfl KK5
  · replace h4 := am_ifT b6 h4
    refine am_iconst dX0_tallyInto_20 ic_1 ?_
    refine am_goto 25 dX0_tallyInto_21 rfl ?_
    obtain rfl := Option.some.inj h4
    exact am_drop [0, 1, 2, 3, 4] rfl KK5
theorem c_X0_tallyInto {K : am_K} {d : Nat} {M : am_M} {x1 : Int32} {x2 : Int32} {x3 : Int32} {y : am_M} (h : f_X0_tallyInto M x1 x2 x3 = some y) : am_Met K d m_X0_tallyInto [.inr (.inr (0, 0, 0)), .inl x1, .inl x2, .inl x3] M (fun q N => q = none ∧ N = y) :=
  am_Met_of cb_X0_tallyInto (Nat.le_of_ble_eq_true rfl) (w_X0_tallyInto h ⟨rfl, rfl⟩)
def l_X0_tallyMarks_60 (a1 : Int32) (a2 : Int32) (a3 : Int32) : Nat → Int32 → am_M → Option (am_M)
  | 0, _, _ => none
  | n + 1, a4, M => (if a4 < 0 then some M else ((if ((a3 >>> (a4 &&& 31)) &&& (1 : Int32)) = (1 : Int32) then (f_X0_tallyInto M a2 a4 a1).bind (fun r13 => some r13) else some M) : Option (am_M)).bind (fun z9 => am_let (a4 + (-1 : Int32)) (fun v15 => l_X0_tallyMarks_60 a1 a2 a3 n v15 z9)))
set_option maxHeartbeats 4000000 in
theorem wl_X0_tallyMarks_60 {K : am_K} {d : Nat} {post : Option am_V → am_M → Prop} {a1 : Int32} {a2 : Int32} {a3 : Int32} : ∀ (n : Nat) (a4 : Int32) (M : am_M) (x : am_M), l_X0_tallyMarks_60 a1 a2 a3 n a4 M = some x → am_W K (d + 1) m_X0_tallyMarks 89 [(0, .inr (.inr (0, 0, 0))), (1, .inl a1), (2, .inl a2)] [] x post → am_W K (d + 1) m_X0_tallyMarks 60 [(0, .inr (.inr (0, 0, 0))), (1, .inl a1), (2, .inl a2), (3, .inl a3), (4, .inl a4)] [] M post := by
  intro n
  induction n with
  | zero => intro a4 M x h KX; cases h
  | succ n ih =>
    intro a4 M x h KX
    rw [l_X0_tallyMarks_60] at h
    refine am_iload dX0_tallyMarks_60 rfl ?_
    refine am_if_lt 89 dX0_tallyMarks_62 rfl (fun b16 => ?_) (fun b16 => ?_)
    · replace h := am_ifT b16 h
      obtain rfl := Option.some.inj h
      exact am_drop [0, 1, 2] rfl KX
    · replace h := am_ifF b16 h
      refine am_iload_n dX0_tallyMarks_65 rfl ?_
      refine am_iload dX0_tallyMarks_66 rfl ?_
      refine am_ishr dX0_tallyMarks_68 ?_
      refine am_iconst dX0_tallyMarks_69 ic_1 ?_
      refine am_iand dX0_tallyMarks_70 ?_
      refine am_iconst dX0_tallyMarks_71 ic_1 ?_
      obtain ⟨z9, h10, h⟩ := am_bnd h
      have KK11 : am_W K (d + 1) m_X0_tallyMarks 83 [(0, .inr (.inr (0, 0, 0))), (1, .inl a1), (2, .inl a2), (3, .inl a3), (4, .inl a4)] [] z9 post := by
        obtain ⟨v15, ev15, h⟩ := am_letE h
        refine am_iinc (ls' := [(0, .inr (.inr (0, 0, 0))), (1, .inl a1), (2, .inl a2), (3, .inl a3), (4, .inl v15)]) dX0_tallyMarks_83 rfl ((congrArg (fun z => a4 + z) ic_m1).trans ev15.symm) (Nat.le_of_ble_eq_true rfl) rfl ?_
        refine am_goto 60 dX0_tallyMarks_86 rfl ?_
        exact am_drop [0, 1, 2, 3, 4] rfl (ih _ _ _ h KX)
      clear h
      refine am_icmp_ne 83 dX0_tallyMarks_72 rfl (fun b14 => ?_) (fun b14 => ?_)
      · replace h10 := am_ifF b14 h10
        obtain rfl := Option.some.inj h10
        exact am_drop [0, 1, 2, 3, 4] rfl KK11
      · replace h10 := am_ifT b14 h10
        refine am_aload_n dX0_tallyMarks_75 rfl ?_
        refine am_iload_n dX0_tallyMarks_76 rfl ?_
        refine am_iload dX0_tallyMarks_77 rfl ?_
        refine am_iload_n dX0_tallyMarks_79 rfl ?_
        obtain ⟨r13, c12, h10⟩ := am_bnd h10
        refine am_callVv (as := [.inl a2, .inl a4, .inl a1]) dX0_tallyMarks_80 cv_RX0_146 cb_X0_tallyInto sh_0 rfl hk_0 rfl rfl (Nat.le_of_ble_eq_true rfl) (c_X0_tallyInto c12) ?_
        obtain rfl := Option.some.inj h10
        exact am_drop [0, 1, 2, 3, 4] rfl KK11
def l_X0_tallyMarks_33  : Nat → Int32 → Int32 → am_M → Option (am_M)
  | 0, _, _, _ => none
  | n + 1, a1, a2, M => (if (M.1 0 0 0 0) < a2 then some M else if am_inb (a2 - (1 : Int32)) 25 = true then if am_inb a2 25 = true then am_let ((M.1 103 0 0 (a2 - (1 : Int32)).toNatClampNeg) ||| (M.1 103 0 0 a2.toNatClampNeg)) (fun v8 => (l_X0_tallyMarks_60 a1 a2 v8 1000 a2 M).bind (fun z17 => if am_inb a2 25 = true then ((if (z17.1 104 0 0 a2.toNatClampNeg) = 0 then some (0 : Int32) else (if (24 : Int32) ≤ a1 then some (0 : Int32) else some (1 : Int32))) : Option (Int32)).bind (fun z21 => am_let (a1 + z21) (fun v26 => am_let (a2 + (1 : Int32)) (fun v27 => l_X0_tallyMarks_33  n v26 v27 z17))) else none)) else none else none)
set_option maxHeartbeats 4000000 in
theorem wl_X0_tallyMarks_33 {K : am_K} {d : Nat} {post : Option am_V → am_M → Prop}  : ∀ (n : Nat) (a1 : Int32) (a2 : Int32) (M : am_M) (x : am_M), l_X0_tallyMarks_33  n a1 a2 M = some x → am_W K (d + 1) m_X0_tallyMarks 118 [(0, .inr (.inr (0, 0, 0)))] [] x post → am_W K (d + 1) m_X0_tallyMarks 33 [(0, .inr (.inr (0, 0, 0))), (1, .inl a1), (2, .inl a2)] [] M post := by
  intro n
  induction n with
  | zero => intro a1 a2 M x h KX; cases h
  | succ n ih =>
    intro a1 a2 M x h KX
    rw [l_X0_tallyMarks_33] at h
    refine am_iload_n dX0_tallyMarks_33 rfl ?_
    refine am_aload_n dX0_tallyMarks_34 rfl ?_
    refine am_getI dX0_tallyMarks_35 fl_RX0_88 sh_0 rfl hk_0 ?_
    refine am_icmp_gt 118 dX0_tallyMarks_38 rfl (fun b28 => ?_) (fun b28 => ?_)
    · replace h := am_ifT b28 h
      obtain rfl := Option.some.inj h
      exact am_drop [0] rfl KX
    · replace h := am_ifF b28 h
      refine am_aload_n dX0_tallyMarks_41 rfl ?_
      refine am_getR (o' := 0) dX0_tallyMarks_42 fl_RX0_15 sh_0 rfl rfl hk_0 ?_
      refine am_iload_n dX0_tallyMarks_45 rfl ?_
      refine am_iconst dX0_tallyMarks_46 ic_1 ?_
      refine am_isub dX0_tallyMarks_47 ?_
      obtain ⟨g6, h⟩ := am_grd h
      refine am_iaload dX0_tallyMarks_48 sh_103 hk_103 (am_inbE g6) ?_
      refine am_aload_n dX0_tallyMarks_49 rfl ?_
      refine am_getR (o' := 0) dX0_tallyMarks_50 fl_RX0_15 sh_0 rfl rfl hk_0 ?_
      refine am_iload_n dX0_tallyMarks_53 rfl ?_
      obtain ⟨g7, h⟩ := am_grd h
      refine am_iaload dX0_tallyMarks_54 sh_103 hk_103 (am_inbE g7) ?_
      refine am_ior dX0_tallyMarks_55 ?_
      obtain ⟨v8, ev8, h⟩ := am_letE h
      refine am_topI ev8 ?_
      refine am_istore_n (ls' := [(0, .inr (.inr (0, 0, 0))), (1, .inl a1), (2, .inl a2), (3, .inl v8)]) dX0_tallyMarks_56 (Nat.le_of_ble_eq_true rfl) rfl ?_
      refine am_iload_n dX0_tallyMarks_57 rfl ?_
      refine am_istore (ls' := [(0, .inr (.inr (0, 0, 0))), (1, .inl a1), (2, .inl a2), (3, .inl v8), (4, .inl a2)]) dX0_tallyMarks_58 (Nat.le_of_ble_eq_true rfl) rfl ?_
      obtain ⟨z17, h18, h⟩ := am_bnd h
      have KK19 : am_W K (d + 1) m_X0_tallyMarks 89 [(0, .inr (.inr (0, 0, 0))), (1, .inl a1), (2, .inl a2)] [] z17 post := by
        refine am_iload_n dX0_tallyMarks_89 rfl ?_
        refine am_aload_n dX0_tallyMarks_90 rfl ?_
        refine am_getR (o' := 0) dX0_tallyMarks_91 fl_RX0_18 sh_0 rfl rfl hk_0 ?_
        refine am_iload_n dX0_tallyMarks_94 rfl ?_
        obtain ⟨g20, h⟩ := am_grd h
        refine am_iaload dX0_tallyMarks_95 sh_104 hk_104 (am_inbE g20) ?_
        obtain ⟨z21, h22, h⟩ := am_bnd h
        have KK23 : am_W K (d + 1) m_X0_tallyMarks 110 [(0, .inr (.inr (0, 0, 0))), (2, .inl a2)] [.inl z21, .inl a1] z17 post := by
          refine am_iadd dX0_tallyMarks_110 ?_
          obtain ⟨v26, ev26, h⟩ := am_letE h
          refine am_topI ev26 ?_
          refine am_istore_n (ls' := [(0, .inr (.inr (0, 0, 0))), (1, .inl v26), (2, .inl a2)]) dX0_tallyMarks_111 (Nat.le_of_ble_eq_true rfl) rfl ?_
          obtain ⟨v27, ev27, h⟩ := am_letE h
          refine am_iinc (ls' := [(0, .inr (.inr (0, 0, 0))), (1, .inl v26), (2, .inl v27)]) dX0_tallyMarks_112 rfl ((congrArg (fun z => a2 + z) ic_1).trans ev27.symm) (Nat.le_of_ble_eq_true rfl) rfl ?_
          refine am_goto 33 dX0_tallyMarks_115 rfl ?_
          exact am_drop [0, 1, 2] rfl (ih _ _ _ _ h KX)
        clear h
        refine am_if_eq 109 dX0_tallyMarks_96 rfl (fun b25 => ?_) (fun b25 => ?_)
        · replace h22 := am_ifT b25 h22
          refine am_iconst dX0_tallyMarks_109 ic_0 ?_
          obtain rfl := Option.some.inj h22
          exact am_drop [0, 2] rfl KK23
        · replace h22 := am_ifF b25 h22
          refine am_iload_n dX0_tallyMarks_99 rfl ?_
          refine am_bipush dX0_tallyMarks_100 bp_24 ?_
          refine am_icmp_ge 109 dX0_tallyMarks_102 rfl (fun b24 => ?_) (fun b24 => ?_)
          · replace h22 := am_ifT b24 h22
            refine am_iconst dX0_tallyMarks_109 ic_0 ?_
            obtain rfl := Option.some.inj h22
            exact am_drop [0, 2] rfl KK23
          · replace h22 := am_ifF b24 h22
            refine am_iconst dX0_tallyMarks_105 ic_1 ?_
            refine am_goto 110 dX0_tallyMarks_106 rfl ?_
            obtain rfl := Option.some.inj h22
            exact am_drop [0, 2] rfl KK23
      exact am_drop [0, 1, 2, 3, 4] rfl (wl_X0_tallyMarks_60 _ _ _ _ h18 KK19)
def f_X0_tallyMarks (M : am_M)  : Option (am_M) :=
  (f_J7_fill_53178 M 107 0 0 625 (0 : Int32)).bind (fun r2 => am_let ((r2.1 104 0 0 (0 : Int32).toNatClampNeg) &&& (1 : Int32)) (fun v3 => if am_inb v3 625 = true then am_let (am_si r2 107 0 0 v3.toNatClampNeg ((r2.1 103 0 0 (0 : Int32).toNatClampNeg) &&& (1 : Int32))) (fun M5 => (l_X0_tallyMarks_33  1000 v3 (1 : Int32) M5).bind (fun z29 => if (¬ ((z29.1 0 0 0 1) * (25 : Int32)) < 0 ∧ ¬ (0 : Int32) < 0 ∧ ¬ (25 : Int32) < 0 ∧ ((z29.1 0 0 0 1) * (25 : Int32)).toNatClampNeg + (25 : Int32).toNatClampNeg ≤ 625 ∧ (0 : Int32).toNatClampNeg + (25 : Int32).toNatClampNeg ≤ 25) then am_let (am_ri z29 102 0 0 (va_cpy (fun j => z29.1 107 0 0 j) (fun j => z29.1 102 0 0 j) ((z29.1 0 0 0 1) * (25 : Int32)).toNatClampNeg (0 : Int32).toNatClampNeg (25 : Int32).toNatClampNeg)) (fun M33 => some M33) else none)) else none))
set_option maxHeartbeats 4000000 in
theorem w_X0_tallyMarks {K : am_K} {d : Nat} {post : Option am_V → am_M → Prop} {M : am_M}  {y : am_M} (h : f_X0_tallyMarks M  = some y) (hp : post none y) : am_W K (d + 1) m_X0_tallyMarks 0 [(0, .inr (.inr (0, 0, 0)))] [] M post := by
  unfold f_X0_tallyMarks at h
  refine am_aload_n dX0_tallyMarks_0 rfl ?_
  refine am_getR (o' := 0) dX0_tallyMarks_1 fl_RX0_28 sh_0 rfl rfl hk_0 ?_
  refine am_iconst dX0_tallyMarks_4 ic_0 ?_
  obtain ⟨r2, c1, h⟩ := am_bnd h
  refine am_callSv (as := [.inr (.inr (107, 0, 0)), .inl (0 : Int32)]) dX0_tallyMarks_5 cs_RX0_134 cb_J7_fill_53178 rfl rfl (Nat.le_of_ble_eq_true rfl) (c_J7_fill_53178 sh_107 hk_107 c1) ?_
  refine am_aload_n dX0_tallyMarks_8 rfl ?_
  refine am_getR (o' := 0) dX0_tallyMarks_9 fl_RX0_18 sh_0 rfl rfl hk_0 ?_
  refine am_iconst dX0_tallyMarks_12 ic_0 ?_
  refine am_iaload dX0_tallyMarks_13 sh_104 hk_104 (am_inbE (by decide)) ?_
  refine am_iconst dX0_tallyMarks_14 ic_1 ?_
  refine am_iand dX0_tallyMarks_15 ?_
  obtain ⟨v3, ev3, h⟩ := am_letE h
  refine am_topI ev3 ?_
  refine am_istore_n (ls' := [(0, .inr (.inr (0, 0, 0))), (1, .inl v3)]) dX0_tallyMarks_16 (Nat.le_of_ble_eq_true rfl) rfl ?_
  refine am_aload_n dX0_tallyMarks_17 rfl ?_
  refine am_getR (o' := 0) dX0_tallyMarks_18 fl_RX0_28 sh_0 rfl rfl hk_0 ?_
  refine am_iload_n dX0_tallyMarks_21 rfl ?_
  refine am_aload_n dX0_tallyMarks_22 rfl ?_
  refine am_getR (o' := 0) dX0_tallyMarks_23 fl_RX0_15 sh_0 rfl rfl hk_0 ?_
  refine am_iconst dX0_tallyMarks_26 ic_0 ?_
  refine am_iaload dX0_tallyMarks_27 sh_103 hk_103 (am_inbE (by decide)) ?_
  refine am_iconst dX0_tallyMarks_28 ic_1 ?_
  refine am_iand dX0_tallyMarks_29 ?_
  obtain ⟨g4, h⟩ := am_grd h
  obtain ⟨M5, eM5, h⟩ := am_letE h
  refine am_iastore dX0_tallyMarks_30 sh_107 hk_107 (am_inbE g4) ?_
  refine am_mem eM5 ?_
  refine am_iconst dX0_tallyMarks_31 ic_1 ?_
  refine am_istore_n (ls' := [(0, .inr (.inr (0, 0, 0))), (1, .inl v3), (2, .inl (1 : Int32))]) dX0_tallyMarks_32 (Nat.le_of_ble_eq_true rfl) rfl ?_
  obtain ⟨z29, h30, h⟩ := am_bnd h
  have KK31 : am_W K (d + 1) m_X0_tallyMarks 118 [(0, .inr (.inr (0, 0, 0)))] [] z29 post := by
    refine am_aload_n dX0_tallyMarks_118 rfl ?_
    refine am_getR (o' := 0) dX0_tallyMarks_119 fl_RX0_28 sh_0 rfl rfl hk_0 ?_
    refine am_aload_n dX0_tallyMarks_122 rfl ?_
    refine am_getI dX0_tallyMarks_123 fl_RX0_91 sh_0 rfl hk_0 ?_
    refine am_bipush dX0_tallyMarks_126 bp_25 ?_
    refine am_imul dX0_tallyMarks_128 ?_
    refine am_aload_n dX0_tallyMarks_129 rfl ?_
    refine am_getR (o' := 0) dX0_tallyMarks_130 fl_RX0_9 sh_0 rfl rfl hk_0 ?_
    refine am_iconst dX0_tallyMarks_133 ic_0 ?_
    refine am_bipush dX0_tallyMarks_134 bp_25 ?_
    obtain ⟨g32, h⟩ := am_grd h
    obtain ⟨M33, eM33, h⟩ := am_letE h
    refine am_copyI dX0_tallyMarks_136 cc_RX0_149 sh_107 sh_102 hk_107 hk_102 g32.1 g32.2.1 g32.2.2.1 g32.2.2.2.1 g32.2.2.2.2 (Nat.le_of_ble_eq_true rfl) ?_
    refine am_mem eM33 ?_
    obtain rfl := Option.some.inj h
    exact am_return dX0_tallyMarks_139 rfl hp
  exact am_drop [0, 1, 2] rfl (wl_X0_tallyMarks_33 _ _ _ _ _ h30 KK31)
theorem c_X0_tallyMarks {K : am_K} {d : Nat} {M : am_M}  {y : am_M} (h : f_X0_tallyMarks M  = some y) : am_Met K (d + 1) m_X0_tallyMarks [.inr (.inr (0, 0, 0))] M (fun q N => q = none ∧ N = y) :=
  am_Met_of cb_X0_tallyMarks (Nat.le_of_ble_eq_true rfl) (w_X0_tallyMarks h ⟨rfl, rfl⟩)
def l_X0_tallyFrom_8 (M : am_M) : Nat → Int32 → Int32 → Option (Int32)
  | 0, _, _ => none
  | n + 1, a2, a3 => (if (25 : Int32) ≤ a3 then some a2 else if am_inb a3 25 = true then am_let (a2 + (M.1 102 0 0 a3.toNatClampNeg)) (fun v3 => am_let (a3 + (1 : Int32)) (fun v4 => l_X0_tallyFrom_8 M n v3 v4)) else none)
set_option maxHeartbeats 4000000 in
theorem wl_X0_tallyFrom_8 {K : am_K} {d : Nat} {post : Option am_V → am_M → Prop} {M : am_M} : ∀ (n : Nat) (a2 : Int32) (a3 : Int32) (x : Int32), l_X0_tallyFrom_8 M n a2 a3 = some x → am_W K (d + 1) m_X0_tallyFrom 29 [(2, .inl x)] [] M post → am_W K (d + 1) m_X0_tallyFrom 8 [(0, .inr (.inr (0, 0, 0))), (2, .inl a2), (3, .inl a3)] [] M post := by
  intro n
  induction n with
  | zero => intro a2 a3 x h KX; cases h
  | succ n ih =>
    intro a2 a3 x h KX
    rw [l_X0_tallyFrom_8] at h
    refine am_iload_n dX0_tallyFrom_8 rfl ?_
    refine am_bipush dX0_tallyFrom_9 bp_25 ?_
    refine am_icmp_ge 29 dX0_tallyFrom_11 rfl (fun b5 => ?_) (fun b5 => ?_)
    · replace h := am_ifT b5 h
      obtain rfl := Option.some.inj h
      exact am_drop [2] rfl KX
    · replace h := am_ifF b5 h
      refine am_iload_n dX0_tallyFrom_14 rfl ?_
      refine am_aload_n dX0_tallyFrom_15 rfl ?_
      refine am_getR (o' := 0) dX0_tallyFrom_16 fl_RX0_9 sh_0 rfl rfl hk_0 ?_
      refine am_iload_n dX0_tallyFrom_19 rfl ?_
      obtain ⟨g2, h⟩ := am_grd h
      refine am_iaload dX0_tallyFrom_20 sh_102 hk_102 (am_inbE g2) ?_
      refine am_iadd dX0_tallyFrom_21 ?_
      obtain ⟨v3, ev3, h⟩ := am_letE h
      refine am_topI ev3 ?_
      refine am_istore_n (ls' := [(0, .inr (.inr (0, 0, 0))), (2, .inl v3), (3, .inl a3)]) dX0_tallyFrom_22 (Nat.le_of_ble_eq_true rfl) rfl ?_
      obtain ⟨v4, ev4, h⟩ := am_letE h
      refine am_iinc (ls' := [(0, .inr (.inr (0, 0, 0))), (2, .inl v3), (3, .inl v4)]) dX0_tallyFrom_23 rfl ((congrArg (fun z => a3 + z) ic_1).trans ev4.symm) (Nat.le_of_ble_eq_true rfl) rfl ?_
      refine am_goto 8 dX0_tallyFrom_26 rfl ?_
      exact am_drop [0, 2, 3] rfl (ih _ _ _ h KX)
def f_X0_tallyFrom (M : am_M) (x1 : Int32) : Option (Int32) :=
  am_let (if (0 : Int32) < x1 then x1 else (0 : Int32)) (fun v1 => (l_X0_tallyFrom_8 M 1000 (0 : Int32) v1).bind (fun z6 => some z6))
set_option maxHeartbeats 4000000 in
theorem w_X0_tallyFrom {K : am_K} {d : Nat} {post : Option am_V → am_M → Prop} {M : am_M} {x1 : Int32} {y : Int32} (h : f_X0_tallyFrom M x1 = some y) (hp : post (some (.inl y)) M) : am_W K (d + 1) m_X0_tallyFrom 0 [(0, .inr (.inr (0, 0, 0))), (1, .inl x1)] [] M post := by
  unfold f_X0_tallyFrom at h
  refine am_iconst dX0_tallyFrom_0 ic_0 ?_
  refine am_istore_n (ls' := [(0, .inr (.inr (0, 0, 0))), (1, .inl x1), (2, .inl (0 : Int32))]) dX0_tallyFrom_1 (Nat.le_of_ble_eq_true rfl) rfl ?_
  refine am_iconst dX0_tallyFrom_2 ic_0 ?_
  refine am_iload_n dX0_tallyFrom_3 rfl ?_
  refine am_mmax dX0_tallyFrom_4 cm_RX0_92 (Nat.le_of_ble_eq_true rfl) ?_
  obtain ⟨v1, ev1, h⟩ := am_letE h
  refine am_topI ev1 ?_
  refine am_istore_n (ls' := [(0, .inr (.inr (0, 0, 0))), (1, .inl x1), (2, .inl (0 : Int32)), (3, .inl v1)]) dX0_tallyFrom_7 (Nat.le_of_ble_eq_true rfl) rfl ?_
  obtain ⟨z6, h7, h⟩ := am_bnd h
  have KK8 : am_W K (d + 1) m_X0_tallyFrom 29 [(2, .inl z6)] [] M post := by
    refine am_iload_n dX0_tallyFrom_29 rfl ?_
    obtain rfl := Option.some.inj h
    exact am_ireturn dX0_tallyFrom_30 rfl rfl hp
  exact am_drop [0, 2, 3] rfl (wl_X0_tallyFrom_8 _ _ _ _ h7 KK8)
theorem c_X0_tallyFrom {K : am_K} {d : Nat} {M : am_M} {x1 : Int32} {y : Int32} (h : f_X0_tallyFrom M x1 = some y) : am_Met K (d + 1) m_X0_tallyFrom [.inr (.inr (0, 0, 0)), .inl x1] M (fun q N => q = some (.inl y) ∧ N = M) :=
  am_Met_of cb_X0_tallyFrom (Nat.le_of_ble_eq_true rfl) (w_X0_tallyFrom h ⟨rfl, rfl⟩)
def f_X1_hasRoom (M : am_M) (o : Nat) (x1 : Int32) : Option (Int32) :=
  (if (24 : Int32) < ((M.1 1 o 0 1) + x1) then some (0 : Int32) else some (1 : Int32))
set_option maxHeartbeats 4000000 in
theorem w_X1_hasRoom {K : am_K} {d : Nat} {post : Option am_V → am_M → Prop} {M : am_M} {o : Nat} {x1 : Int32} {y : Int32} (h : f_X1_hasRoom M o x1 = some y) (hp : post (some (.inl y)) M) : am_W K d m_X1_hasRoom 0 [(0, .inr (.inr (1, o, 0))), (1, .inl x1)] [] M post := by
  unfold f_X1_hasRoom at h
  refine am_aload_n dX1_hasRoom_0 rfl ?_
  refine am_getI dX1_hasRoom_1 fl_RX1_37 sh_1 rfl hk_1 ?_
  refine am_iload_n dX1_hasRoom_4 rfl ?_
  refine am_iadd dX1_hasRoom_5 ?_
  refine am_bipush dX1_hasRoom_6 bp_24 ?_
  refine am_icmp_gt 15 dX1_hasRoom_8 rfl (fun b1 => ?_) (fun b1 => ?_)
  · replace h := am_ifT b1 h
    refine am_iconst dX1_hasRoom_15 ic_0 ?_
    obtain rfl := Option.some.inj h
    exact am_ireturn dX1_hasRoom_16 rfl (am_narZ (by decide)) hp
  · replace h := am_ifF b1 h
    refine am_iconst dX1_hasRoom_11 ic_1 ?_
    refine am_goto 16 dX1_hasRoom_12 rfl ?_
    obtain rfl := Option.some.inj h
    exact am_ireturn dX1_hasRoom_16 rfl (am_narZ (by decide)) hp
theorem c_X1_hasRoom {K : am_K} {d : Nat} {M : am_M} {o : Nat} {x1 : Int32} {y : Int32} (h : f_X1_hasRoom M o x1 = some y) : am_Met K d m_X1_hasRoom [.inr (.inr (1, o, 0)), .inl x1] M (fun q N => q = some (.inl y) ∧ N = M) :=
  am_Met_of cb_X1_hasRoom (Nat.le_of_ble_eq_true rfl) (w_X1_hasRoom h ⟨rfl, rfl⟩)
def f_X1_layIn (M : am_M) (o : Nat) (x1 : Int32) (x2 : Int32) : Option (Int32 × am_M) :=
  am_let (M.1 1 o 0 0) (fun v1 => (if (4 : Int32) ≤ v1 then some (v1, M) else if am_inb v1 4 = true then am_let (am_si M 203 o 0 v1.toNatClampNeg x1) (fun M3 => if am_inb v1 4 = true then am_let (am_si M3 204 o 0 v1.toNatClampNeg x2) (fun M5 => if am_inb v1 4 = true then am_let (am_si M5 205 o 0 v1.toNatClampNeg v1) (fun M7 => am_let (am_si M7 1 o 0 0 ((M7.1 1 o 0 0) + (1 : Int32))) (fun M8 => am_let (am_si M8 1 o 0 1 ((M8.1 1 o 0 1) + (x1 + x2))) (fun M9 => am_let (am_si M9 1 o 0 2 ((M9.1 1 o 0 2) + x1)) (fun M10 => some (v1, M10))))) else none) else none) else none))
set_option maxHeartbeats 4000000 in
theorem w_X1_layIn {K : am_K} {d : Nat} {post : Option am_V → am_M → Prop} {M : am_M} {o : Nat} {x1 : Int32} {x2 : Int32} {y : Int32 × am_M} (h : f_X1_layIn M o x1 x2 = some y) (hp : post (some (.inl y.1)) y.2) : am_W K d m_X1_layIn 0 [(0, .inr (.inr (1, o, 0))), (1, .inl x1), (2, .inl x2)] [] M post := by
  unfold f_X1_layIn at h
  refine am_aload_n dX1_layIn_0 rfl ?_
  refine am_getI dX1_layIn_1 fl_RX1_40 sh_1 rfl hk_1 ?_
  obtain ⟨v1, ev1, h⟩ := am_letE h
  refine am_topI ev1 ?_
  refine am_istore_n (ls' := [(0, .inr (.inr (1, o, 0))), (1, .inl x1), (2, .inl x2), (3, .inl v1)]) dX1_layIn_4 (Nat.le_of_ble_eq_true rfl) rfl ?_
  refine am_iload_n dX1_layIn_5 rfl ?_
  refine am_iconst dX1_layIn_6 ic_4 ?_
  refine am_icmp_ge 63 dX1_layIn_7 rfl (fun b11 => ?_) (fun b11 => ?_)
  · replace h := am_ifT b11 h
    refine am_iload_n dX1_layIn_63 rfl ?_
    obtain rfl := Option.some.inj h
    exact am_ireturn dX1_layIn_64 rfl rfl hp
  · replace h := am_ifF b11 h
    refine am_aload_n dX1_layIn_10 rfl ?_
    refine am_getR (o' := o) dX1_layIn_11 fl_RX1_9 sh_1 rfl rfl hk_1 ?_
    refine am_iload_n dX1_layIn_14 rfl ?_
    refine am_iload_n dX1_layIn_15 rfl ?_
    obtain ⟨g2, h⟩ := am_grd h
    obtain ⟨M3, eM3, h⟩ := am_letE h
    refine am_iastore dX1_layIn_16 sh_203 hk_203 (am_inbE g2) ?_
    refine am_mem eM3 ?_
    refine am_aload_n dX1_layIn_17 rfl ?_
    refine am_getR (o' := o) dX1_layIn_18 fl_RX1_15 sh_1 rfl rfl hk_1 ?_
    refine am_iload_n dX1_layIn_21 rfl ?_
    refine am_iload_n dX1_layIn_22 rfl ?_
    obtain ⟨g4, h⟩ := am_grd h
    obtain ⟨M5, eM5, h⟩ := am_letE h
    refine am_iastore dX1_layIn_23 sh_204 hk_204 (am_inbE g4) ?_
    refine am_mem eM5 ?_
    refine am_aload_n dX1_layIn_24 rfl ?_
    refine am_getR (o' := o) dX1_layIn_25 fl_RX1_18 sh_1 rfl rfl hk_1 ?_
    refine am_iload_n dX1_layIn_28 rfl ?_
    refine am_iload_n dX1_layIn_29 rfl ?_
    obtain ⟨g6, h⟩ := am_grd h
    obtain ⟨M7, eM7, h⟩ := am_letE h
    refine am_iastore dX1_layIn_30 sh_205 hk_205 (am_inbE g6) ?_
    refine am_mem eM7 ?_
    refine am_aload_n dX1_layIn_31 rfl ?_
    refine am_dup dX1_layIn_32 rfl ?_
    refine am_getI dX1_layIn_33 fl_RX1_40 sh_1 rfl hk_1 ?_
    refine am_iconst dX1_layIn_36 ic_1 ?_
    refine am_iadd dX1_layIn_37 ?_
    obtain ⟨M8, eM8, h⟩ := am_letE h
    refine am_putI dX1_layIn_38 fl_RX1_40 fp_X1_0 sh_1 rfl rfl rfl hk_1 ?_
    refine am_mem eM8 ?_
    refine am_aload_n dX1_layIn_41 rfl ?_
    refine am_dup dX1_layIn_42 rfl ?_
    refine am_getI dX1_layIn_43 fl_RX1_37 sh_1 rfl hk_1 ?_
    refine am_iload_n dX1_layIn_46 rfl ?_
    refine am_iload_n dX1_layIn_47 rfl ?_
    refine am_iadd dX1_layIn_48 ?_
    refine am_iadd dX1_layIn_49 ?_
    obtain ⟨M9, eM9, h⟩ := am_letE h
    refine am_putI dX1_layIn_50 fl_RX1_37 fp_X1_1 sh_1 rfl rfl rfl hk_1 ?_
    refine am_mem eM9 ?_
    refine am_aload_n dX1_layIn_53 rfl ?_
    refine am_dup dX1_layIn_54 rfl ?_
    refine am_getI dX1_layIn_55 fl_RX1_43 sh_1 rfl hk_1 ?_
    refine am_iload_n dX1_layIn_58 rfl ?_
    refine am_iadd dX1_layIn_59 ?_
    obtain ⟨M10, eM10, h⟩ := am_letE h
    refine am_putI dX1_layIn_60 fl_RX1_43 fp_X1_2 sh_1 rfl rfl rfl hk_1 ?_
    refine am_mem eM10 ?_
    refine am_iload_n dX1_layIn_63 rfl ?_
    obtain rfl := Option.some.inj h
    exact am_ireturn dX1_layIn_64 rfl rfl hp
theorem c_X1_layIn {K : am_K} {d : Nat} {M : am_M} {o : Nat} {x1 : Int32} {x2 : Int32} {y : Int32 × am_M} (h : f_X1_layIn M o x1 x2 = some y) : am_Met K d m_X1_layIn [.inr (.inr (1, o, 0)), .inl x1, .inl x2] M (fun q N => q = some (.inl y.1) ∧ N = y.2) :=
  am_Met_of cb_X1_layIn (Nat.le_of_ble_eq_true rfl) (w_X1_layIn h ⟨rfl, rfl⟩)
def f_X1_remember (M : am_M) (o : Nat) (x1 : Int32) (x2 : Int32) (x3 : Int32) : Option (Int32 × am_M) :=
  am_let (M.1 1 o 0 9) (fun v1 => (if (4 : Int32) ≤ v1 then some (v1, M) else if am_inb v1 4 = true then am_let (am_si M 210 o 0 v1.toNatClampNeg x1) (fun M3 => if am_inb v1 4 = true then am_let (am_si M3 211 o 0 v1.toNatClampNeg x2) (fun M5 => if am_inb v1 4 = true then am_let (am_si M5 212 o 0 v1.toNatClampNeg x3) (fun M7 => am_let (am_si M7 1 o 0 9 ((M7.1 1 o 0 9) + (1 : Int32))) (fun M8 => some (v1, M8))) else none) else none) else none))
set_option maxHeartbeats 4000000 in
theorem w_X1_remember {K : am_K} {d : Nat} {post : Option am_V → am_M → Prop} {M : am_M} {o : Nat} {x1 : Int32} {x2 : Int32} {x3 : Int32} {y : Int32 × am_M} (h : f_X1_remember M o x1 x2 x3 = some y) (hp : post (some (.inl y.1)) y.2) : am_W K d m_X1_remember 0 [(0, .inr (.inr (1, o, 0))), (1, .inl x1), (2, .inl x2), (3, .inl x3)] [] M post := by
  unfold f_X1_remember at h
  refine am_aload_n dX1_remember_0 rfl ?_
  refine am_getI dX1_remember_1 fl_RX1_46 sh_1 rfl hk_1 ?_
  obtain ⟨v1, ev1, h⟩ := am_letE h
  refine am_topI ev1 ?_
  refine am_istore (ls' := [(0, .inr (.inr (1, o, 0))), (1, .inl x1), (2, .inl x2), (3, .inl x3), (4, .inl v1)]) dX1_remember_4 (Nat.le_of_ble_eq_true rfl) rfl ?_
  refine am_iload dX1_remember_6 rfl ?_
  refine am_iconst dX1_remember_8 ic_4 ?_
  refine am_icmp_ge 46 dX1_remember_9 rfl (fun b9 => ?_) (fun b9 => ?_)
  · replace h := am_ifT b9 h
    refine am_iload dX1_remember_46 rfl ?_
    obtain rfl := Option.some.inj h
    exact am_ireturn dX1_remember_48 rfl rfl hp
  · replace h := am_ifF b9 h
    refine am_aload_n dX1_remember_12 rfl ?_
    refine am_getR (o' := o) dX1_remember_13 fl_RX1_24 sh_1 rfl rfl hk_1 ?_
    refine am_iload dX1_remember_16 rfl ?_
    refine am_iload_n dX1_remember_18 rfl ?_
    obtain ⟨g2, h⟩ := am_grd h
    obtain ⟨M3, eM3, h⟩ := am_letE h
    refine am_iastore dX1_remember_19 sh_210 hk_210 (am_inbE g2) ?_
    refine am_mem eM3 ?_
    refine am_aload_n dX1_remember_20 rfl ?_
    refine am_getR (o' := o) dX1_remember_21 fl_RX1_27 sh_1 rfl rfl hk_1 ?_
    refine am_iload dX1_remember_24 rfl ?_
    refine am_iload_n dX1_remember_26 rfl ?_
    obtain ⟨g4, h⟩ := am_grd h
    obtain ⟨M5, eM5, h⟩ := am_letE h
    refine am_iastore dX1_remember_27 sh_211 hk_211 (am_inbE g4) ?_
    refine am_mem eM5 ?_
    refine am_aload_n dX1_remember_28 rfl ?_
    refine am_getR (o' := o) dX1_remember_29 fl_RX1_30 sh_1 rfl rfl hk_1 ?_
    refine am_iload dX1_remember_32 rfl ?_
    refine am_iload_n dX1_remember_34 rfl ?_
    obtain ⟨g6, h⟩ := am_grd h
    obtain ⟨M7, eM7, h⟩ := am_letE h
    refine am_iastore dX1_remember_35 sh_212 hk_212 (am_inbE g6) ?_
    refine am_mem eM7 ?_
    refine am_aload_n dX1_remember_36 rfl ?_
    refine am_dup dX1_remember_37 rfl ?_
    refine am_getI dX1_remember_38 fl_RX1_46 sh_1 rfl hk_1 ?_
    refine am_iconst dX1_remember_41 ic_1 ?_
    refine am_iadd dX1_remember_42 ?_
    obtain ⟨M8, eM8, h⟩ := am_letE h
    refine am_putI dX1_remember_43 fl_RX1_46 fp_X1_9 sh_1 rfl rfl rfl hk_1 ?_
    refine am_mem eM8 ?_
    refine am_iload dX1_remember_46 rfl ?_
    obtain rfl := Option.some.inj h
    exact am_ireturn dX1_remember_48 rfl rfl hp
theorem c_X1_remember {K : am_K} {d : Nat} {M : am_M} {o : Nat} {x1 : Int32} {x2 : Int32} {x3 : Int32} {y : Int32 × am_M} (h : f_X1_remember M o x1 x2 x3 = some y) : am_Met K d m_X1_remember [.inr (.inr (1, o, 0)), .inl x1, .inl x2, .inl x3] M (fun q N => q = some (.inl y.1) ∧ N = y.2) :=
  am_Met_of cb_X1_remember (Nat.le_of_ble_eq_true rfl) (w_X1_remember h ⟨rfl, rfl⟩)
def l_X1_dropFact_2 (o0a : Nat) : Nat → Int32 → am_M → Option (am_M)
  | 0, _, _ => none
  | n + 1, a2, M => (if (M.1 1 o0a 0 9) ≤ (a2 + (1 : Int32)) then some M else if am_inb (a2 + (1 : Int32)) 4 = true then if am_inb a2 4 = true then am_let (am_si M 210 o0a 0 a2.toNatClampNeg (M.1 210 o0a 0 (a2 + (1 : Int32)).toNatClampNeg)) (fun M3 => if am_inb (a2 + (1 : Int32)) 4 = true then if am_inb a2 4 = true then am_let (am_si M3 211 o0a 0 a2.toNatClampNeg (M3.1 211 o0a 0 (a2 + (1 : Int32)).toNatClampNeg)) (fun M6 => if am_inb (a2 + (1 : Int32)) 4 = true then if am_inb a2 4 = true then am_let (am_si M6 212 o0a 0 a2.toNatClampNeg (M6.1 212 o0a 0 (a2 + (1 : Int32)).toNatClampNeg)) (fun M9 => am_let (a2 + (1 : Int32)) (fun v10 => l_X1_dropFact_2 o0a n v10 M9)) else none else none) else none else none) else none else none)
set_option maxHeartbeats 4000000 in
theorem wl_X1_dropFact_2 {K : am_K} {d : Nat} {post : Option am_V → am_M → Prop} {o0a : Nat} : ∀ (n : Nat) (a2 : Int32) (M : am_M) (x : am_M), l_X1_dropFact_2 o0a n a2 M = some x → am_W K d m_X1_dropFact 60 [(0, .inr (.inr (1, o0a, 0)))] [] x post → am_W K d m_X1_dropFact 2 [(0, .inr (.inr (1, o0a, 0))), (2, .inl a2)] [] M post := by
  intro n
  induction n with
  | zero => intro a2 M x h KX; cases h
  | succ n ih =>
    intro a2 M x h KX
    rw [l_X1_dropFact_2] at h
    refine am_iload_n dX1_dropFact_2 rfl ?_
    refine am_iconst dX1_dropFact_3 ic_1 ?_
    refine am_iadd dX1_dropFact_4 ?_
    refine am_aload_n dX1_dropFact_5 rfl ?_
    refine am_getI dX1_dropFact_6 fl_RX1_46 sh_1 rfl hk_1 ?_
    refine am_icmp_ge 60 dX1_dropFact_9 rfl (fun b11 => ?_) (fun b11 => ?_)
    · replace h := am_ifT b11 h
      obtain rfl := Option.some.inj h
      exact am_drop [0] rfl KX
    · replace h := am_ifF b11 h
      refine am_aload_n dX1_dropFact_12 rfl ?_
      refine am_getR (o' := o0a) dX1_dropFact_13 fl_RX1_24 sh_1 rfl rfl hk_1 ?_
      refine am_iload_n dX1_dropFact_16 rfl ?_
      refine am_aload_n dX1_dropFact_17 rfl ?_
      refine am_getR (o' := o0a) dX1_dropFact_18 fl_RX1_24 sh_1 rfl rfl hk_1 ?_
      refine am_iload_n dX1_dropFact_21 rfl ?_
      refine am_iconst dX1_dropFact_22 ic_1 ?_
      refine am_iadd dX1_dropFact_23 ?_
      obtain ⟨g1, h⟩ := am_grd h
      refine am_iaload dX1_dropFact_24 sh_210 hk_210 (am_inbE g1) ?_
      obtain ⟨g2, h⟩ := am_grd h
      obtain ⟨M3, eM3, h⟩ := am_letE h
      refine am_iastore dX1_dropFact_25 sh_210 hk_210 (am_inbE g2) ?_
      refine am_mem eM3 ?_
      refine am_aload_n dX1_dropFact_26 rfl ?_
      refine am_getR (o' := o0a) dX1_dropFact_27 fl_RX1_27 sh_1 rfl rfl hk_1 ?_
      refine am_iload_n dX1_dropFact_30 rfl ?_
      refine am_aload_n dX1_dropFact_31 rfl ?_
      refine am_getR (o' := o0a) dX1_dropFact_32 fl_RX1_27 sh_1 rfl rfl hk_1 ?_
      refine am_iload_n dX1_dropFact_35 rfl ?_
      refine am_iconst dX1_dropFact_36 ic_1 ?_
      refine am_iadd dX1_dropFact_37 ?_
      obtain ⟨g4, h⟩ := am_grd h
      refine am_iaload dX1_dropFact_38 sh_211 hk_211 (am_inbE g4) ?_
      obtain ⟨g5, h⟩ := am_grd h
      obtain ⟨M6, eM6, h⟩ := am_letE h
      refine am_iastore dX1_dropFact_39 sh_211 hk_211 (am_inbE g5) ?_
      refine am_mem eM6 ?_
      refine am_aload_n dX1_dropFact_40 rfl ?_
      refine am_getR (o' := o0a) dX1_dropFact_41 fl_RX1_30 sh_1 rfl rfl hk_1 ?_
      refine am_iload_n dX1_dropFact_44 rfl ?_
      refine am_aload_n dX1_dropFact_45 rfl ?_
      refine am_getR (o' := o0a) dX1_dropFact_46 fl_RX1_30 sh_1 rfl rfl hk_1 ?_
      refine am_iload_n dX1_dropFact_49 rfl ?_
      refine am_iconst dX1_dropFact_50 ic_1 ?_
      refine am_iadd dX1_dropFact_51 ?_
      obtain ⟨g7, h⟩ := am_grd h
      refine am_iaload dX1_dropFact_52 sh_212 hk_212 (am_inbE g7) ?_
      obtain ⟨g8, h⟩ := am_grd h
      obtain ⟨M9, eM9, h⟩ := am_letE h
      refine am_iastore dX1_dropFact_53 sh_212 hk_212 (am_inbE g8) ?_
      refine am_mem eM9 ?_
      obtain ⟨v10, ev10, h⟩ := am_letE h
      refine am_iinc (ls' := [(0, .inr (.inr (1, o0a, 0))), (2, .inl v10)]) dX1_dropFact_54 rfl ((congrArg (fun z => a2 + z) ic_1).trans ev10.symm) (Nat.le_of_ble_eq_true rfl) rfl ?_
      refine am_goto 2 dX1_dropFact_57 rfl ?_
      exact am_drop [0, 2] rfl (ih _ _ _ h KX)
def f_X1_dropFact (M : am_M) (o : Nat) (x1 : Int32) : Option (Int32 × am_M) :=
  (l_X1_dropFact_2 o 1000 x1 M).bind (fun z12 => am_let (am_si z12 1 o 0 9 ((z12.1 1 o 0 9) - (1 : Int32))) (fun M15 => some ((M15.1 1 o 0 9), M15)))
set_option maxHeartbeats 4000000 in
theorem w_X1_dropFact {K : am_K} {d : Nat} {post : Option am_V → am_M → Prop} {M : am_M} {o : Nat} {x1 : Int32} {y : Int32 × am_M} (h : f_X1_dropFact M o x1 = some y) (hp : post (some (.inl y.1)) y.2) : am_W K d m_X1_dropFact 0 [(0, .inr (.inr (1, o, 0))), (1, .inl x1)] [] M post := by
  unfold f_X1_dropFact at h
  refine am_iload_n dX1_dropFact_0 rfl ?_
  refine am_istore_n (ls' := [(0, .inr (.inr (1, o, 0))), (1, .inl x1), (2, .inl x1)]) dX1_dropFact_1 (Nat.le_of_ble_eq_true rfl) rfl ?_
  obtain ⟨z12, h13, h⟩ := am_bnd h
  have KK14 : am_W K d m_X1_dropFact 60 [(0, .inr (.inr (1, o, 0)))] [] z12 post := by
    refine am_aload_n dX1_dropFact_60 rfl ?_
    refine am_dup dX1_dropFact_61 rfl ?_
    refine am_getI dX1_dropFact_62 fl_RX1_46 sh_1 rfl hk_1 ?_
    refine am_iconst dX1_dropFact_65 ic_1 ?_
    refine am_isub dX1_dropFact_66 ?_
    obtain ⟨M15, eM15, h⟩ := am_letE h
    refine am_putI dX1_dropFact_67 fl_RX1_46 fp_X1_9 sh_1 rfl rfl rfl hk_1 ?_
    refine am_mem eM15 ?_
    refine am_aload_n dX1_dropFact_70 rfl ?_
    refine am_getI dX1_dropFact_71 fl_RX1_46 sh_1 rfl hk_1 ?_
    obtain rfl := Option.some.inj h
    exact am_ireturn dX1_dropFact_74 rfl rfl hp
  exact am_drop [0, 2] rfl (wl_X1_dropFact_2 _ _ _ _ h13 KK14)
theorem c_X1_dropFact {K : am_K} {d : Nat} {M : am_M} {o : Nat} {x1 : Int32} {y : Int32 × am_M} (h : f_X1_dropFact M o x1 = some y) : am_Met K d m_X1_dropFact [.inr (.inr (1, o, 0)), .inl x1] M (fun q N => q = some (.inl y.1) ∧ N = y.2) :=
  am_Met_of cb_X1_dropFact (Nat.le_of_ble_eq_true rfl) (w_X1_dropFact h ⟨rfl, rfl⟩)
def f_X1_exchange (M : am_M) (o : Nat) (x1 : Int32) (x2 : Int32) : Option (am_M) :=
  if am_inb x1 4 = true then am_let (M.1 205 o 0 x1.toNatClampNeg) (fun v2 => if am_inb x2 4 = true then if am_inb x1 4 = true then am_let (am_si M 205 o 0 x1.toNatClampNeg (M.1 205 o 0 x2.toNatClampNeg)) (fun M5 => if am_inb x2 4 = true then am_let (am_si M5 205 o 0 x2.toNatClampNeg v2) (fun M7 => some M7) else none) else none else none) else none
set_option maxHeartbeats 4000000 in
theorem w_X1_exchange {K : am_K} {d : Nat} {post : Option am_V → am_M → Prop} {M : am_M} {o : Nat} {x1 : Int32} {x2 : Int32} {y : am_M} (h : f_X1_exchange M o x1 x2 = some y) (hp : post none y) : am_W K d m_X1_exchange 0 [(0, .inr (.inr (1, o, 0))), (1, .inl x1), (2, .inl x2)] [] M post := by
  unfold f_X1_exchange at h
  refine am_aload_n dX1_exchange_0 rfl ?_
  refine am_getR (o' := o) dX1_exchange_1 fl_RX1_18 sh_1 rfl rfl hk_1 ?_
  refine am_iload_n dX1_exchange_4 rfl ?_
  obtain ⟨g1, h⟩ := am_grd h
  refine am_iaload dX1_exchange_5 sh_205 hk_205 (am_inbE g1) ?_
  obtain ⟨v2, ev2, h⟩ := am_letE h
  refine am_topI ev2 ?_
  refine am_istore_n (ls' := [(0, .inr (.inr (1, o, 0))), (1, .inl x1), (2, .inl x2), (3, .inl v2)]) dX1_exchange_6 (Nat.le_of_ble_eq_true rfl) rfl ?_
  refine am_aload_n dX1_exchange_7 rfl ?_
  refine am_getR (o' := o) dX1_exchange_8 fl_RX1_18 sh_1 rfl rfl hk_1 ?_
  refine am_iload_n dX1_exchange_11 rfl ?_
  refine am_aload_n dX1_exchange_12 rfl ?_
  refine am_getR (o' := o) dX1_exchange_13 fl_RX1_18 sh_1 rfl rfl hk_1 ?_
  refine am_iload_n dX1_exchange_16 rfl ?_
  obtain ⟨g3, h⟩ := am_grd h
  refine am_iaload dX1_exchange_17 sh_205 hk_205 (am_inbE g3) ?_
  obtain ⟨g4, h⟩ := am_grd h
  obtain ⟨M5, eM5, h⟩ := am_letE h
  refine am_iastore dX1_exchange_18 sh_205 hk_205 (am_inbE g4) ?_
  refine am_mem eM5 ?_
  refine am_aload_n dX1_exchange_19 rfl ?_
  refine am_getR (o' := o) dX1_exchange_20 fl_RX1_18 sh_1 rfl rfl hk_1 ?_
  refine am_iload_n dX1_exchange_23 rfl ?_
  refine am_iload_n dX1_exchange_24 rfl ?_
  obtain ⟨g6, h⟩ := am_grd h
  obtain ⟨M7, eM7, h⟩ := am_letE h
  refine am_iastore dX1_exchange_25 sh_205 hk_205 (am_inbE g6) ?_
  refine am_mem eM7 ?_
  obtain rfl := Option.some.inj h
  exact am_return dX1_exchange_26 rfl hp
theorem c_X1_exchange {K : am_K} {d : Nat} {M : am_M} {o : Nat} {x1 : Int32} {x2 : Int32} {y : am_M} (h : f_X1_exchange M o x1 x2 = some y) : am_Met K d m_X1_exchange [.inr (.inr (1, o, 0)), .inl x1, .inl x2] M (fun q N => q = none ∧ N = y) :=
  am_Met_of cb_X1_exchange (Nat.le_of_ble_eq_true rfl) (w_X1_exchange h ⟨rfl, rfl⟩)
def l_X1_placeOf_2 (M : am_M) (o0a : Nat) (a1 : Int32) : Nat → Int32 → Option (Int32)
  | 0, _ => none
  | n + 1, a2 => (if (M.1 1 o0a 0 0) ≤ a2 then some (-1 : Int32) else if am_inb a2 4 = true then (if (M.1 205 o0a 0 a2.toNatClampNeg) = a1 then some a2 else am_let (a2 + (1 : Int32)) (fun v2 => l_X1_placeOf_2 M o0a a1 n v2)) else none)
set_option maxHeartbeats 4000000 in
theorem wl_X1_placeOf_2 {K : am_K} {d : Nat} {post : Option am_V → am_M → Prop} {M : am_M} {o0a : Nat} {a1 : Int32} : ∀ (n : Nat) (a2 : Int32) (y : Int32), l_X1_placeOf_2 M o0a a1 n a2 = some y → post (some (.inl y)) M → am_W K d m_X1_placeOf 2 [(0, .inr (.inr (1, o0a, 0))), (1, .inl a1), (2, .inl a2)] [] M post := by
  intro n
  induction n with
  | zero => intro a2 y h hp; cases h
  | succ n ih =>
    intro a2 y h hp
    rw [l_X1_placeOf_2] at h
    refine am_iload_n dX1_placeOf_2 rfl ?_
    refine am_aload_n dX1_placeOf_3 rfl ?_
    refine am_getI dX1_placeOf_4 fl_RX1_40 sh_1 rfl hk_1 ?_
    refine am_icmp_ge 28 dX1_placeOf_7 rfl (fun b4 => ?_) (fun b4 => ?_)
    · replace h := am_ifT b4 h
      refine am_iconst dX1_placeOf_28 ic_m1 ?_
      obtain rfl := Option.some.inj h
      exact am_ireturn dX1_placeOf_29 rfl rfl hp
    · replace h := am_ifF b4 h
      refine am_aload_n dX1_placeOf_10 rfl ?_
      refine am_getR (o' := o0a) dX1_placeOf_11 fl_RX1_18 sh_1 rfl rfl hk_1 ?_
      refine am_iload_n dX1_placeOf_14 rfl ?_
      obtain ⟨g1, h⟩ := am_grd h
      refine am_iaload dX1_placeOf_15 sh_205 hk_205 (am_inbE g1) ?_
      refine am_iload_n dX1_placeOf_16 rfl ?_
      refine am_icmp_ne 22 dX1_placeOf_17 rfl (fun b3 => ?_) (fun b3 => ?_)
      · replace h := am_ifF b3 h
        obtain ⟨v2, ev2, h⟩ := am_letE h
        refine am_iinc (ls' := [(0, .inr (.inr (1, o0a, 0))), (1, .inl a1), (2, .inl v2)]) dX1_placeOf_22 rfl ((congrArg (fun z => a2 + z) ic_1).trans ev2.symm) (Nat.le_of_ble_eq_true rfl) rfl ?_
        refine am_goto 2 dX1_placeOf_25 rfl ?_
        exact am_drop [0, 1, 2] rfl (ih _ _ h hp)
      · replace h := am_ifT b3 h
        refine am_iload_n dX1_placeOf_20 rfl ?_
        obtain rfl := Option.some.inj h
        exact am_ireturn dX1_placeOf_21 rfl rfl hp
def f_X1_placeOf (M : am_M) (o : Nat) (x1 : Int32) : Option (Int32) :=
  l_X1_placeOf_2 M o x1 1000 (0 : Int32)
set_option maxHeartbeats 4000000 in
theorem w_X1_placeOf {K : am_K} {d : Nat} {post : Option am_V → am_M → Prop} {M : am_M} {o : Nat} {x1 : Int32} {y : Int32} (h : f_X1_placeOf M o x1 = some y) (hp : post (some (.inl y)) M) : am_W K d m_X1_placeOf 0 [(0, .inr (.inr (1, o, 0))), (1, .inl x1)] [] M post := by
  unfold f_X1_placeOf at h
  refine am_iconst dX1_placeOf_0 ic_0 ?_
  refine am_istore_n (ls' := [(0, .inr (.inr (1, o, 0))), (1, .inl x1), (2, .inl (0 : Int32))]) dX1_placeOf_1 (Nat.le_of_ble_eq_true rfl) rfl ?_
  exact am_drop [0, 1, 2] rfl (wl_X1_placeOf_2 _ _ _ h hp)
theorem c_X1_placeOf {K : am_K} {d : Nat} {M : am_M} {o : Nat} {x1 : Int32} {y : Int32} (h : f_X1_placeOf M o x1 = some y) : am_Met K d m_X1_placeOf [.inr (.inr (1, o, 0)), .inl x1] M (fun q N => q = some (.inl y) ∧ N = M) :=
  am_Met_of cb_X1_placeOf (Nat.le_of_ble_eq_true rfl) (w_X1_placeOf h ⟨rfl, rfl⟩)
def l_X1_heapNow_4 (M : am_M) (o0a : Nat) : Nat → Int32 → Int32 → Option (Int32)
  | 0, _, _ => none
  | n + 1, a1, a2 => (if (M.1 1 o0a 0 0) ≤ a2 then some (-1 : Int32) else if am_inb a2 4 = true then am_let (M.1 205 o0a 0 a2.toNatClampNeg) (fun v2 => if am_inb v2 4 = true then if am_inb v2 4 = true then am_let (a1 + ((M.1 203 o0a 0 v2.toNatClampNeg) + (M.1 204 o0a 0 v2.toNatClampNeg))) (fun v5 => (if v5 ≤ (M.1 1 o0a 0 6) then am_let (a2 + (1 : Int32)) (fun v6 => l_X1_heapNow_4 M o0a n v5 v6) else some v2)) else none else none) else none)
set_option maxHeartbeats 4000000 in
theorem wl_X1_heapNow_4 {K : am_K} {d : Nat} {post : Option am_V → am_M → Prop} {M : am_M} {o0a : Nat} : ∀ (n : Nat) (a1 : Int32) (a2 : Int32) (y : Int32), l_X1_heapNow_4 M o0a n a1 a2 = some y → post (some (.inl y)) M → am_W K d m_X1_heapNow 4 [(0, .inr (.inr (1, o0a, 0))), (1, .inl a1), (2, .inl a2)] [] M post := by
  intro n
  induction n with
  | zero => intro a1 a2 y h hp; cases h
  | succ n ih =>
    intro a1 a2 y h hp
    rw [l_X1_heapNow_4] at h
    refine am_iload_n dX1_heapNow_4 rfl ?_
    refine am_aload_n dX1_heapNow_5 rfl ?_
    refine am_getI dX1_heapNow_6 fl_RX1_40 sh_1 rfl hk_1 ?_
    refine am_icmp_ge 51 dX1_heapNow_9 rfl (fun b8 => ?_) (fun b8 => ?_)
    · replace h := am_ifT b8 h
      refine am_iconst dX1_heapNow_51 ic_m1 ?_
      obtain rfl := Option.some.inj h
      exact am_ireturn dX1_heapNow_52 rfl rfl hp
    · replace h := am_ifF b8 h
      refine am_aload_n dX1_heapNow_12 rfl ?_
      refine am_getR (o' := o0a) dX1_heapNow_13 fl_RX1_18 sh_1 rfl rfl hk_1 ?_
      refine am_iload_n dX1_heapNow_16 rfl ?_
      obtain ⟨g1, h⟩ := am_grd h
      refine am_iaload dX1_heapNow_17 sh_205 hk_205 (am_inbE g1) ?_
      obtain ⟨v2, ev2, h⟩ := am_letE h
      refine am_topI ev2 ?_
      refine am_istore_n (ls' := [(0, .inr (.inr (1, o0a, 0))), (1, .inl a1), (2, .inl a2), (3, .inl v2)]) dX1_heapNow_18 (Nat.le_of_ble_eq_true rfl) rfl ?_
      refine am_iload_n dX1_heapNow_19 rfl ?_
      refine am_aload_n dX1_heapNow_20 rfl ?_
      refine am_getR (o' := o0a) dX1_heapNow_21 fl_RX1_9 sh_1 rfl rfl hk_1 ?_
      refine am_iload_n dX1_heapNow_24 rfl ?_
      obtain ⟨g3, h⟩ := am_grd h
      refine am_iaload dX1_heapNow_25 sh_203 hk_203 (am_inbE g3) ?_
      refine am_aload_n dX1_heapNow_26 rfl ?_
      refine am_getR (o' := o0a) dX1_heapNow_27 fl_RX1_15 sh_1 rfl rfl hk_1 ?_
      refine am_iload_n dX1_heapNow_30 rfl ?_
      obtain ⟨g4, h⟩ := am_grd h
      refine am_iaload dX1_heapNow_31 sh_204 hk_204 (am_inbE g4) ?_
      refine am_iadd dX1_heapNow_32 ?_
      refine am_iadd dX1_heapNow_33 ?_
      obtain ⟨v5, ev5, h⟩ := am_letE h
      refine am_topI ev5 ?_
      refine am_istore_n (ls' := [(0, .inr (.inr (1, o0a, 0))), (1, .inl v5), (2, .inl a2), (3, .inl v2)]) dX1_heapNow_34 (Nat.le_of_ble_eq_true rfl) rfl ?_
      refine am_iload_n dX1_heapNow_35 rfl ?_
      refine am_aload_n dX1_heapNow_36 rfl ?_
      refine am_getI dX1_heapNow_37 fl_RX1_49 sh_1 rfl hk_1 ?_
      refine am_icmp_le 45 dX1_heapNow_40 rfl (fun b7 => ?_) (fun b7 => ?_)
      · replace h := am_ifT b7 h
        obtain ⟨v6, ev6, h⟩ := am_letE h
        refine am_iinc (ls' := [(0, .inr (.inr (1, o0a, 0))), (1, .inl v5), (2, .inl v6), (3, .inl v2)]) dX1_heapNow_45 rfl ((congrArg (fun z => a2 + z) ic_1).trans ev6.symm) (Nat.le_of_ble_eq_true rfl) rfl ?_
        refine am_goto 4 dX1_heapNow_48 rfl ?_
        exact am_drop [0, 1, 2] rfl (ih _ _ _ h hp)
      · replace h := am_ifF b7 h
        refine am_iload_n dX1_heapNow_43 rfl ?_
        obtain rfl := Option.some.inj h
        exact am_ireturn dX1_heapNow_44 rfl rfl hp
def f_X1_heapNow (M : am_M) (o : Nat) : Option (Int32) :=
  l_X1_heapNow_4 M o 1000 (0 : Int32) (0 : Int32)
set_option maxHeartbeats 4000000 in
theorem w_X1_heapNow {K : am_K} {d : Nat} {post : Option am_V → am_M → Prop} {M : am_M} {o : Nat} {y : Int32} (h : f_X1_heapNow M o = some y) (hp : post (some (.inl y)) M) : am_W K d m_X1_heapNow 0 [(0, .inr (.inr (1, o, 0)))] [] M post := by
  unfold f_X1_heapNow at h
  refine am_iconst dX1_heapNow_0 ic_0 ?_
  refine am_istore_n (ls' := [(0, .inr (.inr (1, o, 0))), (1, .inl (0 : Int32))]) dX1_heapNow_1 (Nat.le_of_ble_eq_true rfl) rfl ?_
  refine am_iconst dX1_heapNow_2 ic_0 ?_
  refine am_istore_n (ls' := [(0, .inr (.inr (1, o, 0))), (1, .inl (0 : Int32)), (2, .inl (0 : Int32))]) dX1_heapNow_3 (Nat.le_of_ble_eq_true rfl) rfl ?_
  exact am_drop [0, 1, 2] rfl (wl_X1_heapNow_4 _ _ _ _ h hp)
theorem c_X1_heapNow {K : am_K} {d : Nat} {M : am_M} {o : Nat} {y : Int32} (h : f_X1_heapNow M o = some y) : am_Met K d m_X1_heapNow [.inr (.inr (1, o, 0))] M (fun q N => q = some (.inl y) ∧ N = M) :=
  am_Met_of cb_X1_heapNow (Nat.le_of_ble_eq_true rfl) (w_X1_heapNow h ⟨rfl, rfl⟩)
def l_X1_leftNow_46 (M : am_M) (o0a : Nat) (a1 : Int32) (a3 : Int32) : Nat → Int32 → Int32 → Option (Int32)
  | 0, _, _ => none
  | n + 1, a4, a5 => (if a3 < a5 then some a4 else ((if a1 = 0 then if am_inb a5 4 = true then if am_inb (M.1 205 o0a 0 a5.toNatClampNeg) 4 = true then some (M.1 204 o0a 0 (M.1 205 o0a 0 a5.toNatClampNeg).toNatClampNeg) else none else none else if am_inb a5 4 = true then if am_inb (M.1 205 o0a 0 a5.toNatClampNeg) 4 = true then some (M.1 203 o0a 0 (M.1 205 o0a 0 a5.toNatClampNeg).toNatClampNeg) else none else none) : Option (Int32)).bind (fun z13 => am_let (a4 + z13) (fun v21 => am_let (a5 + (1 : Int32)) (fun v22 => l_X1_leftNow_46 M o0a a1 a3 n v21 v22))))
set_option maxHeartbeats 4000000 in
theorem wl_X1_leftNow_46 {K : am_K} {d : Nat} {post : Option am_V → am_M → Prop} {M : am_M} {o0a : Nat} {a1 : Int32} {a3 : Int32} : ∀ (n : Nat) (a4 : Int32) (a5 : Int32) (x : Int32), l_X1_leftNow_46 M o0a a1 a3 n a4 a5 = some x → am_W K (d + 1) m_X1_leftNow 94 [(3, .inl a3), (4, .inl x)] [] M post → am_W K (d + 1) m_X1_leftNow 46 [(0, .inr (.inr (1, o0a, 0))), (1, .inl a1), (3, .inl a3), (4, .inl a4), (5, .inl a5)] [] M post := by
  intro n
  induction n with
  | zero => intro a4 a5 x h KX; cases h
  | succ n ih =>
    intro a4 a5 x h KX
    rw [l_X1_leftNow_46] at h
    refine am_iload dX1_leftNow_46 rfl ?_
    refine am_iload_n dX1_leftNow_48 rfl ?_
    refine am_icmp_gt 94 dX1_leftNow_49 rfl (fun b23 => ?_) (fun b23 => ?_)
    · replace h := am_ifT b23 h
      obtain rfl := Option.some.inj h
      exact am_drop [3, 4] rfl KX
    · replace h := am_ifF b23 h
      refine am_iload dX1_leftNow_52 rfl ?_
      refine am_iload_n dX1_leftNow_54 rfl ?_
      obtain ⟨z13, h14, h⟩ := am_bnd h
      have KK15 : am_W K (d + 1) m_X1_leftNow 85 [(0, .inr (.inr (1, o0a, 0))), (1, .inl a1), (3, .inl a3), (5, .inl a5)] [.inl z13, .inl a4] M post := by
        refine am_iadd dX1_leftNow_85 ?_
        obtain ⟨v21, ev21, h⟩ := am_letE h
        refine am_topI ev21 ?_
        refine am_istore (ls' := [(0, .inr (.inr (1, o0a, 0))), (1, .inl a1), (3, .inl a3), (4, .inl v21), (5, .inl a5)]) dX1_leftNow_86 (Nat.le_of_ble_eq_true rfl) rfl ?_
        obtain ⟨v22, ev22, h⟩ := am_letE h
        refine am_iinc (ls' := [(0, .inr (.inr (1, o0a, 0))), (1, .inl a1), (3, .inl a3), (4, .inl v21), (5, .inl v22)]) dX1_leftNow_88 rfl ((congrArg (fun z => a5 + z) ic_1).trans ev22.symm) (Nat.le_of_ble_eq_true rfl) rfl ?_
        refine am_goto 46 dX1_leftNow_91 rfl ?_
        exact am_drop [0, 1, 3, 4, 5] rfl (ih _ _ _ h KX)
      clear h
      refine am_if_eq 73 dX1_leftNow_55 rfl (fun b20 => ?_) (fun b20 => ?_)
      · replace h14 := am_ifT b20 h14
        refine am_aload_n dX1_leftNow_73 rfl ?_
        refine am_getR (o' := o0a) dX1_leftNow_74 fl_RX1_15 sh_1 rfl rfl hk_1 ?_
        refine am_aload_n dX1_leftNow_77 rfl ?_
        refine am_getR (o' := o0a) dX1_leftNow_78 fl_RX1_18 sh_1 rfl rfl hk_1 ?_
        refine am_iload dX1_leftNow_81 rfl ?_
        obtain ⟨g16, h14⟩ := am_grd h14
        refine am_iaload dX1_leftNow_83 sh_205 hk_205 (am_inbE g16) ?_
        obtain ⟨g17, h14⟩ := am_grd h14
        refine am_iaload dX1_leftNow_84 sh_204 hk_204 (am_inbE g17) ?_
        obtain rfl := Option.some.inj h14
        exact am_drop [0, 1, 3, 5] rfl KK15
      · replace h14 := am_ifF b20 h14
        refine am_aload_n dX1_leftNow_58 rfl ?_
        refine am_getR (o' := o0a) dX1_leftNow_59 fl_RX1_9 sh_1 rfl rfl hk_1 ?_
        refine am_aload_n dX1_leftNow_62 rfl ?_
        refine am_getR (o' := o0a) dX1_leftNow_63 fl_RX1_18 sh_1 rfl rfl hk_1 ?_
        refine am_iload dX1_leftNow_66 rfl ?_
        obtain ⟨g18, h14⟩ := am_grd h14
        refine am_iaload dX1_leftNow_68 sh_205 hk_205 (am_inbE g18) ?_
        obtain ⟨g19, h14⟩ := am_grd h14
        refine am_iaload dX1_leftNow_69 sh_203 hk_203 (am_inbE g19) ?_
        refine am_goto 85 dX1_leftNow_70 rfl ?_
        obtain rfl := Option.some.inj h14
        exact am_drop [0, 1, 3, 5] rfl KK15
def f_X1_leftNow (M : am_M) (o : Nat) (x1 : Int32) : Option (Int32) :=
  (f_X1_heapNow M o).bind (fun r2 => ((if r2 = (-1 : Int32) then some (-1 : Int32) else (f_X1_placeOf M o r2).bind (fun r7 => some r7)) : Option (Int32)).bind (fun z3 => ((if x1 = 0 then some ((M.1 1 o 0 7) - (M.1 1 o 0 6)) else some (-(M.1 1 o 0 7))) : Option (Int32)).bind (fun z9 => (l_X1_leftNow_46 M o x1 z3 1000 z9 (0 : Int32)).bind (fun z24 => (if z3 = (-1 : Int32) then some (0 : Int32) else some z24)))))
set_option maxHeartbeats 4000000 in
theorem w_X1_leftNow {K : am_K} {d : Nat} {post : Option am_V → am_M → Prop} {M : am_M} {o : Nat} {x1 : Int32} {y : Int32} (h : f_X1_leftNow M o x1 = some y) (hp : post (some (.inl y)) M) : am_W K (d + 1) m_X1_leftNow 0 [(0, .inr (.inr (1, o, 0))), (1, .inl x1)] [] M post := by
  unfold f_X1_leftNow at h
  refine am_aload_n dX1_leftNow_0 rfl ?_
  obtain ⟨r2, c1, h⟩ := am_bnd h
  refine am_callVi (as := []) dX1_leftNow_1 cv_RX1_52 cb_X1_heapNow sh_1 rfl hk_1 rfl rfl (Nat.le_of_ble_eq_true rfl) (c_X1_heapNow c1) ?_
  refine am_istore_n (ls' := [(0, .inr (.inr (1, o, 0))), (1, .inl x1), (2, .inl r2)]) dX1_leftNow_4 (Nat.le_of_ble_eq_true rfl) rfl ?_
  refine am_iload_n dX1_leftNow_5 rfl ?_
  refine am_iconst dX1_leftNow_6 ic_m1 ?_
  obtain ⟨z3, h4, h⟩ := am_bnd h
  have KK5 : am_W K (d + 1) m_X1_leftNow 19 [(0, .inr (.inr (1, o, 0))), (1, .inl x1)] [.inl z3] M post := by
    refine am_istore_n (ls' := [(0, .inr (.inr (1, o, 0))), (1, .inl x1), (3, .inl z3)]) dX1_leftNow_19 (Nat.le_of_ble_eq_true rfl) rfl ?_
    refine am_iload_n dX1_leftNow_20 rfl ?_
    obtain ⟨z9, h10, h⟩ := am_bnd h
    have KK11 : am_W K (d + 1) m_X1_leftNow 41 [(0, .inr (.inr (1, o, 0))), (1, .inl x1), (3, .inl z3)] [.inl z9] M post := by
      refine am_istore (ls' := [(0, .inr (.inr (1, o, 0))), (1, .inl x1), (3, .inl z3), (4, .inl z9)]) dX1_leftNow_41 (Nat.le_of_ble_eq_true rfl) rfl ?_
      refine am_iconst dX1_leftNow_43 ic_0 ?_
      refine am_istore (ls' := [(0, .inr (.inr (1, o, 0))), (1, .inl x1), (3, .inl z3), (4, .inl z9), (5, .inl (0 : Int32))]) dX1_leftNow_44 (Nat.le_of_ble_eq_true rfl) rfl ?_
      obtain ⟨z24, h25, h⟩ := am_bnd h
      have KK26 : am_W K (d + 1) m_X1_leftNow 94 [(3, .inl z3), (4, .inl z24)] [] M post := by
        refine am_iload_n dX1_leftNow_94 rfl ?_
        refine am_iconst dX1_leftNow_95 ic_m1 ?_
        refine am_icmp_ne 103 dX1_leftNow_96 rfl (fun b27 => ?_) (fun b27 => ?_)
        · replace h := am_ifF b27 h
          refine am_iload dX1_leftNow_103 rfl ?_
          obtain rfl := Option.some.inj h
          exact am_ireturn dX1_leftNow_105 rfl rfl hp
        · replace h := am_ifT b27 h
          refine am_iconst dX1_leftNow_99 ic_0 ?_
          refine am_goto 105 dX1_leftNow_100 rfl ?_
          obtain rfl := Option.some.inj h
          exact am_ireturn dX1_leftNow_105 rfl rfl hp
      exact am_drop [0, 1, 3, 4, 5] rfl (wl_X1_leftNow_46 _ _ _ _ h25 KK26)
    clear h
    refine am_if_eq 32 dX1_leftNow_21 rfl (fun b12 => ?_) (fun b12 => ?_)
    · replace h10 := am_ifT b12 h10
      refine am_aload_n dX1_leftNow_32 rfl ?_
      refine am_getI dX1_leftNow_33 fl_RX1_60 sh_1 rfl hk_1 ?_
      refine am_aload_n dX1_leftNow_36 rfl ?_
      refine am_getI dX1_leftNow_37 fl_RX1_49 sh_1 rfl hk_1 ?_
      refine am_isub dX1_leftNow_40 ?_
      obtain rfl := Option.some.inj h10
      exact am_drop [0, 1, 3] rfl KK11
    · replace h10 := am_ifF b12 h10
      refine am_aload_n dX1_leftNow_24 rfl ?_
      refine am_getI dX1_leftNow_25 fl_RX1_60 sh_1 rfl hk_1 ?_
      refine am_ineg dX1_leftNow_28 ?_
      refine am_goto 41 dX1_leftNow_29 rfl ?_
      obtain rfl := Option.some.inj h10
      exact am_drop [0, 1, 3] rfl KK11
  clear h
  refine am_icmp_ne 14 dX1_leftNow_7 rfl (fun b8 => ?_) (fun b8 => ?_)
  · replace h4 := am_ifF b8 h4
    refine am_aload_n dX1_leftNow_14 rfl ?_
    refine am_iload_n dX1_leftNow_15 rfl ?_
    obtain ⟨r7, c6, h4⟩ := am_bnd h4
    refine am_callVi (as := [.inl r2]) dX1_leftNow_16 cv_RX1_56 cb_X1_placeOf sh_1 rfl hk_1 rfl rfl (Nat.le_of_ble_eq_true rfl) (c_X1_placeOf c6) ?_
    obtain rfl := Option.some.inj h4
    exact am_drop [0, 1] rfl KK5
  · replace h4 := am_ifT b8 h4
    refine am_iconst dX1_leftNow_10 ic_m1 ?_
    refine am_goto 19 dX1_leftNow_11 rfl ?_
    obtain rfl := Option.some.inj h4
    exact am_drop [0, 1] rfl KK5
theorem c_X1_leftNow {K : am_K} {d : Nat} {M : am_M} {o : Nat} {x1 : Int32} {y : Int32} (h : f_X1_leftNow M o x1 = some y) : am_Met K (d + 1) m_X1_leftNow [.inr (.inr (1, o, 0)), .inl x1] M (fun q N => q = some (.inl y) ∧ N = M) :=
  am_Met_of cb_X1_leftNow (Nat.le_of_ble_eq_true rfl) (w_X1_leftNow h ⟨rfl, rfl⟩)
def f_X1_take (M : am_M) (o : Nat) (x1 : Int32) : Option (Int32 × am_M) :=
  (if (24 : Int32) ≤ (M.1 1 o 0 6) then some ((0 : Int32), M) else (f_X1_leftNow M o x1).bind (fun r2 => (if 0 < r2 then ((if x1 = 0 then some (0 : Int32) else some (1 : Int32)) : Option (Int32)).bind (fun z3 => if am_inb (M.1 1 o 0 6) 24 = true then am_let (am_si M 208 o 0 (M.1 1 o 0 6).toNatClampNeg z3) (fun M8 => (if x1 = 0 then am_let (am_si M8 1 o 0 7 ((M8.1 1 o 0 7) + (0 : Int32))) (fun M9 => am_let (am_si M9 1 o 0 6 ((M9.1 1 o 0 6) + (1 : Int32))) (fun M10 => some ((1 : Int32), M10))) else am_let (am_si M8 1 o 0 7 ((M8.1 1 o 0 7) + (1 : Int32))) (fun M11 => am_let (am_si M11 1 o 0 6 ((M11.1 1 o 0 6) + (1 : Int32))) (fun M12 => some ((1 : Int32), M12))))) else none) else some ((0 : Int32), M))))
set_option maxHeartbeats 4000000 in
theorem w_X1_take {K : am_K} {d : Nat} {post : Option am_V → am_M → Prop} {M : am_M} {o : Nat} {x1 : Int32} {y : Int32 × am_M} (h : f_X1_take M o x1 = some y) (hp : post (some (.inl y.1)) y.2) : am_W K (d + 2) m_X1_take 0 [(0, .inr (.inr (1, o, 0))), (1, .inl x1)] [] M post := by
  unfold f_X1_take at h
  refine am_aload_n dX1_take_0 rfl ?_
  refine am_getI dX1_take_1 fl_RX1_49 sh_1 rfl hk_1 ?_
  refine am_bipush dX1_take_4 bp_24 ?_
  refine am_icmp_ge 17 dX1_take_6 rfl (fun b15 => ?_) (fun b15 => ?_)
  · replace h := am_ifT b15 h
    refine am_iconst dX1_take_17 ic_0 ?_
    obtain rfl := Option.some.inj h
    exact am_ireturn dX1_take_18 rfl (am_narZ (by decide)) hp
  · replace h := am_ifF b15 h
    refine am_aload_n dX1_take_9 rfl ?_
    refine am_iload_n dX1_take_10 rfl ?_
    obtain ⟨r2, c1, h⟩ := am_bnd h
    refine am_callVi (as := [.inl x1]) dX1_take_11 cv_RX1_63 cb_X1_leftNow sh_1 rfl hk_1 rfl rfl (Nat.le_of_ble_eq_true rfl) (c_X1_leftNow c1) ?_
    refine am_if_gt 19 dX1_take_14 rfl (fun b14 => ?_) (fun b14 => ?_)
    · replace h := am_ifT b14 h
      refine am_aload_n dX1_take_19 rfl ?_
      refine am_getR (o' := o) dX1_take_20 fl_RX1_21 sh_1 rfl rfl hk_1 ?_
      refine am_aload_n dX1_take_23 rfl ?_
      refine am_getI dX1_take_24 fl_RX1_49 sh_1 rfl hk_1 ?_
      refine am_iload_n dX1_take_27 rfl ?_
      obtain ⟨z3, h4, h⟩ := am_bnd h
      have KK5 : am_W K (d + 2) m_X1_take 36 [(0, .inr (.inr (1, o, 0))), (1, .inl x1)] [.inl z3, .inl (M.1 1 o 0 6), .inr (.inr (208, o, 0))] M post := by
        obtain ⟨g7, h⟩ := am_grd h
        obtain ⟨M8, eM8, h⟩ := am_letE h
        refine am_iastore dX1_take_36 sh_208 hk_208 (am_inbE g7) ?_
        refine am_mem eM8 ?_
        refine am_aload_n dX1_take_37 rfl ?_
        refine am_dup dX1_take_38 rfl ?_
        refine am_getI dX1_take_39 fl_RX1_60 sh_1 rfl hk_1 ?_
        refine am_iload_n dX1_take_42 rfl ?_
        refine am_if_eq 50 dX1_take_43 rfl (fun b13 => ?_) (fun b13 => ?_)
        · replace h := am_ifT b13 h
          refine am_iconst dX1_take_50 ic_0 ?_
          refine am_iadd dX1_take_51 ?_
          obtain ⟨M9, eM9, h⟩ := am_letE h
          refine am_putI dX1_take_52 fl_RX1_60 fp_X1_7 sh_1 rfl rfl rfl hk_1 ?_
          refine am_mem eM9 ?_
          refine am_aload_n dX1_take_55 rfl ?_
          refine am_dup dX1_take_56 rfl ?_
          refine am_getI dX1_take_57 fl_RX1_49 sh_1 rfl hk_1 ?_
          refine am_iconst dX1_take_60 ic_1 ?_
          refine am_iadd dX1_take_61 ?_
          obtain ⟨M10, eM10, h⟩ := am_letE h
          refine am_putI dX1_take_62 fl_RX1_49 fp_X1_6 sh_1 rfl rfl rfl hk_1 ?_
          refine am_mem eM10 ?_
          refine am_iconst dX1_take_65 ic_1 ?_
          obtain rfl := Option.some.inj h
          exact am_ireturn dX1_take_66 rfl (am_narZ (by decide)) hp
        · replace h := am_ifF b13 h
          refine am_iconst dX1_take_46 ic_1 ?_
          refine am_goto 51 dX1_take_47 rfl ?_
          refine am_iadd dX1_take_51 ?_
          obtain ⟨M11, eM11, h⟩ := am_letE h
          refine am_putI dX1_take_52 fl_RX1_60 fp_X1_7 sh_1 rfl rfl rfl hk_1 ?_
          refine am_mem eM11 ?_
          refine am_aload_n dX1_take_55 rfl ?_
          refine am_dup dX1_take_56 rfl ?_
          refine am_getI dX1_take_57 fl_RX1_49 sh_1 rfl hk_1 ?_
          refine am_iconst dX1_take_60 ic_1 ?_
          refine am_iadd dX1_take_61 ?_
          obtain ⟨M12, eM12, h⟩ := am_letE h
          refine am_putI dX1_take_62 fl_RX1_49 fp_X1_6 sh_1 rfl rfl rfl hk_1 ?_
          refine am_mem eM12 ?_
          refine am_iconst dX1_take_65 ic_1 ?_
          obtain rfl := Option.some.inj h
          exact am_ireturn dX1_take_66 rfl (am_narZ (by decide)) hp
      clear h
      refine am_if_eq 35 dX1_take_28 rfl (fun b6 => ?_) (fun b6 => ?_)
      · replace h4 := am_ifT b6 h4
        refine am_iconst dX1_take_35 ic_0 ?_
        obtain rfl := Option.some.inj h4
        exact am_drop [0, 1] rfl KK5
      · replace h4 := am_ifF b6 h4
        refine am_iconst dX1_take_31 ic_1 ?_
        refine am_goto 36 dX1_take_32 rfl ?_
        obtain rfl := Option.some.inj h4
        exact am_drop [0, 1] rfl KK5
    · replace h := am_ifF b14 h
      refine am_iconst dX1_take_17 ic_0 ?_
      obtain rfl := Option.some.inj h
      exact am_ireturn dX1_take_18 rfl (am_narZ (by decide)) hp
theorem c_X1_take {K : am_K} {d : Nat} {M : am_M} {o : Nat} {x1 : Int32} {y : Int32 × am_M} (h : f_X1_take M o x1 = some y) : am_Met K (d + 2) m_X1_take [.inr (.inr (1, o, 0)), .inl x1] M (fun q N => q = some (.inl y.1) ∧ N = y.2) :=
  am_Met_of cb_X1_take (Nat.le_of_ble_eq_true rfl) (w_X1_take h ⟨rfl, rfl⟩)
def f_X1_drawBelow (M : am_M) (o : Nat) (x1 : Int32) : Option (Int32 × am_M) :=
  (if 0 < x1 then am_let (am_si M 1 o 0 13 (((M.1 1 o 0 13) * (1103515245 : Int32)) + (12345 : Int32))) (fun M1 => if ¬ x1 = 0 then some ((((M1.1 1 o 0 13).toUInt32 >>> ((16 : Int32).toUInt32 &&& Int32.toUInt32 31)).toInt32) - (((M1.1 1 o 0 13).toUInt32 >>> ((16 : Int32).toUInt32 &&& Int32.toUInt32 31)).toInt32) / x1 * x1, M1) else none) else some ((0 : Int32), M))
set_option maxHeartbeats 4000000 in
theorem w_X1_drawBelow {K : am_K} {d : Nat} {post : Option am_V → am_M → Prop} {M : am_M} {o : Nat} {x1 : Int32} {y : Int32 × am_M} (h : f_X1_drawBelow M o x1 = some y) (hp : post (some (.inl y.1)) y.2) : am_W K d m_X1_drawBelow 0 [(0, .inr (.inr (1, o, 0))), (1, .inl x1)] [] M post := by
  unfold f_X1_drawBelow at h
  refine am_iload_n dX1_drawBelow_0 rfl ?_
  refine am_if_gt 6 dX1_drawBelow_1 rfl (fun b3 => ?_) (fun b3 => ?_)
  · replace h := am_ifT b3 h
    refine am_aload_n dX1_drawBelow_6 rfl ?_
    refine am_aload_n dX1_drawBelow_7 rfl ?_
    refine am_getI dX1_drawBelow_8 fl_RX1_33 sh_1 rfl hk_1 ?_
    refine am_ldc dX1_drawBelow_11 kc_RX1_74 ?_
    refine am_imul dX1_drawBelow_13 ?_
    refine am_sipush dX1_drawBelow_14 sp_12345 ?_
    refine am_iadd dX1_drawBelow_17 ?_
    obtain ⟨M1, eM1, h⟩ := am_letE h
    refine am_putI dX1_drawBelow_18 fl_RX1_33 fp_X1_13 sh_1 rfl rfl rfl hk_1 ?_
    refine am_mem eM1 ?_
    refine am_aload_n dX1_drawBelow_21 rfl ?_
    refine am_getI dX1_drawBelow_22 fl_RX1_33 sh_1 rfl hk_1 ?_
    refine am_bipush dX1_drawBelow_25 bp_16 ?_
    refine am_iushr dX1_drawBelow_27 ?_
    refine am_iload_n dX1_drawBelow_28 rfl ?_
    obtain ⟨g2, h⟩ := am_grd h
    refine am_irem dX1_drawBelow_29 g2 ?_
    obtain rfl := Option.some.inj h
    exact am_ireturn dX1_drawBelow_30 rfl rfl hp
  · replace h := am_ifF b3 h
    refine am_iconst dX1_drawBelow_4 ic_0 ?_
    obtain rfl := Option.some.inj h
    exact am_ireturn dX1_drawBelow_5 rfl rfl hp
theorem c_X1_drawBelow {K : am_K} {d : Nat} {M : am_M} {o : Nat} {x1 : Int32} {y : Int32 × am_M} (h : f_X1_drawBelow M o x1 = some y) : am_Met K d m_X1_drawBelow [.inr (.inr (1, o, 0)), .inl x1] M (fun q N => q = some (.inl y.1) ∧ N = y.2) :=
  am_Met_of cb_X1_drawBelow (Nat.le_of_ble_eq_true rfl) (w_X1_drawBelow h ⟨rfl, rfl⟩)
def f_X1_takeByDraw (M : am_M) (o : Nat) : Option (Int32 × am_M) :=
  (f_X1_leftNow M o (1 : Int32)).bind (fun r2 => (f_X1_leftNow M o (0 : Int32)).bind (fun r4 => (f_X1_drawBelow M o (r2 + r4)).bind (fun r6 => ((if r2 ≤ r6.1 then some (0 : Int32) else some (1 : Int32)) : Option (Int32)).bind (fun z7 => (f_X1_take r6.2 o z7).bind (fun r12 => (if z7 = 0 then some ((0 : Int32), r12.2) else some ((1 : Int32), r12.2)))))))
set_option maxHeartbeats 4000000 in
theorem w_X1_takeByDraw {K : am_K} {d : Nat} {post : Option am_V → am_M → Prop} {M : am_M} {o : Nat} {y : Int32 × am_M} (h : f_X1_takeByDraw M o = some y) (hp : post (some (.inl y.1)) y.2) : am_W K (d + 3) m_X1_takeByDraw 0 [(0, .inr (.inr (1, o, 0)))] [] M post := by
  unfold f_X1_takeByDraw at h
  refine am_aload_n dX1_takeByDraw_0 rfl ?_
  refine am_iconst dX1_takeByDraw_1 ic_1 ?_
  obtain ⟨r2, c1, h⟩ := am_bnd h
  refine am_callVi (as := [.inl (1 : Int32)]) dX1_takeByDraw_2 cv_RX1_63 cb_X1_leftNow sh_1 rfl hk_1 rfl rfl (Nat.le_of_ble_eq_true rfl) (c_X1_leftNow c1) ?_
  refine am_istore_n (ls' := [(0, .inr (.inr (1, o, 0))), (1, .inl r2)]) dX1_takeByDraw_5 (Nat.le_of_ble_eq_true rfl) rfl ?_
  refine am_aload_n dX1_takeByDraw_6 rfl ?_
  refine am_iload_n dX1_takeByDraw_7 rfl ?_
  refine am_aload_n dX1_takeByDraw_8 rfl ?_
  refine am_iconst dX1_takeByDraw_9 ic_0 ?_
  obtain ⟨r4, c3, h⟩ := am_bnd h
  refine am_callVi (as := [.inl (0 : Int32)]) dX1_takeByDraw_10 cv_RX1_63 cb_X1_leftNow sh_1 rfl hk_1 rfl rfl (Nat.le_of_ble_eq_true rfl) (c_X1_leftNow c3) ?_
  refine am_iadd dX1_takeByDraw_13 ?_
  obtain ⟨r6, c5, h⟩ := am_bnd h
  refine am_callVi (as := [.inl (r2 + r4)]) dX1_takeByDraw_14 cv_RX1_67 cb_X1_drawBelow sh_1 rfl hk_1 rfl rfl (Nat.le_of_ble_eq_true rfl) (c_X1_drawBelow c5) ?_
  refine am_iload_n dX1_takeByDraw_17 rfl ?_
  obtain ⟨z7, h8, h⟩ := am_bnd h
  have KK9 : am_W K (d + 3) m_X1_takeByDraw 26 [(0, .inr (.inr (1, o, 0)))] [.inl z7] r6.2 post := by
    refine am_istore_n (ls' := [(0, .inr (.inr (1, o, 0))), (2, .inl z7)]) dX1_takeByDraw_26 (Nat.le_of_ble_eq_true rfl) rfl ?_
    refine am_aload_n dX1_takeByDraw_27 rfl ?_
    refine am_iload_n dX1_takeByDraw_28 rfl ?_
    obtain ⟨r12, c11, h⟩ := am_bnd h
    refine am_callVi (as := [.inl z7]) dX1_takeByDraw_29 cv_RX1_70 cb_X1_take sh_1 rfl hk_1 rfl rfl (Nat.le_of_ble_eq_true rfl) (c_X1_take c11) ?_
    refine am_pop dX1_takeByDraw_32 rfl ?_
    refine am_iload_n dX1_takeByDraw_33 rfl ?_
    refine am_if_eq 41 dX1_takeByDraw_34 rfl (fun b13 => ?_) (fun b13 => ?_)
    · replace h := am_ifT b13 h
      refine am_iconst dX1_takeByDraw_41 ic_0 ?_
      obtain rfl := Option.some.inj h
      exact am_ireturn dX1_takeByDraw_42 rfl rfl hp
    · replace h := am_ifF b13 h
      refine am_iconst dX1_takeByDraw_37 ic_1 ?_
      refine am_goto 42 dX1_takeByDraw_38 rfl ?_
      obtain rfl := Option.some.inj h
      exact am_ireturn dX1_takeByDraw_42 rfl rfl hp
  clear h
  refine am_icmp_ge 25 dX1_takeByDraw_18 rfl (fun b10 => ?_) (fun b10 => ?_)
  · replace h8 := am_ifT b10 h8
    refine am_iconst dX1_takeByDraw_25 ic_0 ?_
    obtain rfl := Option.some.inj h8
    exact am_drop [0] rfl KK9
  · replace h8 := am_ifF b10 h8
    refine am_iconst dX1_takeByDraw_21 ic_1 ?_
    refine am_goto 26 dX1_takeByDraw_22 rfl ?_
    obtain rfl := Option.some.inj h8
    exact am_drop [0] rfl KK9
theorem c_X1_takeByDraw {K : am_K} {d : Nat} {M : am_M} {o : Nat} {y : Int32 × am_M} (h : f_X1_takeByDraw M o = some y) : am_Met K (d + 3) m_X1_takeByDraw [.inr (.inr (1, o, 0))] M (fun q N => q = some (.inl y.1) ∧ N = y.2) :=
  am_Met_of cb_X1_takeByDraw (Nat.le_of_ble_eq_true rfl) (w_X1_takeByDraw h ⟨rfl, rfl⟩)
def f_X1_layBack (M : am_M) (o : Nat) : Option (am_M) :=
  am_let (am_si M 1 o 0 6 (0 : Int32)) (fun M1 => am_let (am_si M1 1 o 0 7 (0 : Int32)) (fun M2 => some M2))
set_option maxHeartbeats 4000000 in
theorem w_X1_layBack {K : am_K} {d : Nat} {post : Option am_V → am_M → Prop} {M : am_M} {o : Nat} {y : am_M} (h : f_X1_layBack M o = some y) (hp : post none y) : am_W K d m_X1_layBack 0 [(0, .inr (.inr (1, o, 0)))] [] M post := by
  unfold f_X1_layBack at h
  refine am_aload_n dX1_layBack_0 rfl ?_
  refine am_iconst dX1_layBack_1 ic_0 ?_
  obtain ⟨M1, eM1, h⟩ := am_letE h
  refine am_putI dX1_layBack_2 fl_RX1_49 fp_X1_6 sh_1 rfl rfl rfl hk_1 ?_
  refine am_mem eM1 ?_
  refine am_aload_n dX1_layBack_5 rfl ?_
  refine am_iconst dX1_layBack_6 ic_0 ?_
  obtain ⟨M2, eM2, h⟩ := am_letE h
  refine am_putI dX1_layBack_7 fl_RX1_60 fp_X1_7 sh_1 rfl rfl rfl hk_1 ?_
  refine am_mem eM2 ?_
  obtain rfl := Option.some.inj h
  exact am_return dX1_layBack_10 rfl hp
theorem c_X1_layBack {K : am_K} {d : Nat} {M : am_M} {o : Nat} {y : am_M} (h : f_X1_layBack M o = some y) : am_Met K d m_X1_layBack [.inr (.inr (1, o, 0))] M (fun q N => q = none ∧ N = y) :=
  am_Met_of cb_X1_layBack (Nat.le_of_ble_eq_true rfl) (w_X1_layBack h ⟨rfl, rfl⟩)
def l_X1_momentsAhead_6 (M : am_M) (o0a : Nat) : Nat → Int32 → Int32 → Int32 → Option (Int32)
  | 0, _, _, _ => none
  | n + 1, a1, a2, a3 => (if (M.1 1 o0a 0 6) ≤ a3 then some a1 else if am_inb a3 24 = true then ((if (M.1 208 o0a 0 a3.toNatClampNeg) = (1 : Int32) then some (1 : Int32) else some (-1 : Int32)) : Option (Int32)).bind (fun z2 => am_let (a2 + z2) (fun v6 => ((if v6 ≤ 0 then some (0 : Int32) else some (1 : Int32)) : Option (Int32)).bind (fun z7 => am_let (a1 + z7) (fun v11 => am_let (a3 + (1 : Int32)) (fun v12 => l_X1_momentsAhead_6 M o0a n v11 v6 v12))))) else none)
set_option maxHeartbeats 4000000 in
theorem wl_X1_momentsAhead_6 {K : am_K} {d : Nat} {post : Option am_V → am_M → Prop} {M : am_M} {o0a : Nat} : ∀ (n : Nat) (a1 : Int32) (a2 : Int32) (a3 : Int32) (x : Int32), l_X1_momentsAhead_6 M o0a n a1 a2 a3 = some x → am_W K d m_X1_momentsAhead 50 [(1, .inl x)] [] M post → am_W K d m_X1_momentsAhead 6 [(0, .inr (.inr (1, o0a, 0))), (1, .inl a1), (2, .inl a2), (3, .inl a3)] [] M post := by
  intro n
  induction n with
  | zero => intro a1 a2 a3 x h KX; cases h
  | succ n ih =>
    intro a1 a2 a3 x h KX
    rw [l_X1_momentsAhead_6] at h
    refine am_iload_n dX1_momentsAhead_6 rfl ?_
    refine am_aload_n dX1_momentsAhead_7 rfl ?_
    refine am_getI dX1_momentsAhead_8 fl_RX1_49 sh_1 rfl hk_1 ?_
    refine am_icmp_ge 50 dX1_momentsAhead_11 rfl (fun b13 => ?_) (fun b13 => ?_)
    · replace h := am_ifT b13 h
      obtain rfl := Option.some.inj h
      exact am_drop [1] rfl KX
    · replace h := am_ifF b13 h
      refine am_iload_n dX1_momentsAhead_14 rfl ?_
      refine am_aload_n dX1_momentsAhead_15 rfl ?_
      refine am_getR (o' := o0a) dX1_momentsAhead_16 fl_RX1_21 sh_1 rfl rfl hk_1 ?_
      refine am_iload_n dX1_momentsAhead_19 rfl ?_
      obtain ⟨g1, h⟩ := am_grd h
      refine am_iaload dX1_momentsAhead_20 sh_208 hk_208 (am_inbE g1) ?_
      refine am_iconst dX1_momentsAhead_21 ic_1 ?_
      obtain ⟨z2, h3, h⟩ := am_bnd h
      have KK4 : am_W K d m_X1_momentsAhead 30 [(0, .inr (.inr (1, o0a, 0))), (1, .inl a1), (3, .inl a3)] [.inl z2, .inl a2] M post := by
        refine am_iadd dX1_momentsAhead_30 ?_
        obtain ⟨v6, ev6, h⟩ := am_letE h
        refine am_topI ev6 ?_
        refine am_istore_n (ls' := [(0, .inr (.inr (1, o0a, 0))), (1, .inl a1), (2, .inl v6), (3, .inl a3)]) dX1_momentsAhead_31 (Nat.le_of_ble_eq_true rfl) rfl ?_
        refine am_iload_n dX1_momentsAhead_32 rfl ?_
        refine am_iload_n dX1_momentsAhead_33 rfl ?_
        obtain ⟨z7, h8, h⟩ := am_bnd h
        have KK9 : am_W K d m_X1_momentsAhead 42 [(0, .inr (.inr (1, o0a, 0))), (2, .inl v6), (3, .inl a3)] [.inl z7, .inl a1] M post := by
          refine am_iadd dX1_momentsAhead_42 ?_
          obtain ⟨v11, ev11, h⟩ := am_letE h
          refine am_topI ev11 ?_
          refine am_istore_n (ls' := [(0, .inr (.inr (1, o0a, 0))), (1, .inl v11), (2, .inl v6), (3, .inl a3)]) dX1_momentsAhead_43 (Nat.le_of_ble_eq_true rfl) rfl ?_
          obtain ⟨v12, ev12, h⟩ := am_letE h
          refine am_iinc (ls' := [(0, .inr (.inr (1, o0a, 0))), (1, .inl v11), (2, .inl v6), (3, .inl v12)]) dX1_momentsAhead_44 rfl ((congrArg (fun z => a3 + z) ic_1).trans ev12.symm) (Nat.le_of_ble_eq_true rfl) rfl ?_
          refine am_goto 6 dX1_momentsAhead_47 rfl ?_
          exact am_drop [0, 1, 2, 3] rfl (ih _ _ _ _ h KX)
        clear h
        refine am_if_le 41 dX1_momentsAhead_34 rfl (fun b10 => ?_) (fun b10 => ?_)
        · replace h8 := am_ifT b10 h8
          refine am_iconst dX1_momentsAhead_41 ic_0 ?_
          obtain rfl := Option.some.inj h8
          exact am_drop [0, 2, 3] rfl KK9
        · replace h8 := am_ifF b10 h8
          refine am_iconst dX1_momentsAhead_37 ic_1 ?_
          refine am_goto 42 dX1_momentsAhead_38 rfl ?_
          obtain rfl := Option.some.inj h8
          exact am_drop [0, 2, 3] rfl KK9
      clear h
      refine am_icmp_ne 29 dX1_momentsAhead_22 rfl (fun b5 => ?_) (fun b5 => ?_)
      · replace h3 := am_ifF b5 h3
        refine am_iconst dX1_momentsAhead_29 ic_m1 ?_
        obtain rfl := Option.some.inj h3
        exact am_drop [0, 1, 3] rfl KK4
      · replace h3 := am_ifT b5 h3
        refine am_iconst dX1_momentsAhead_25 ic_1 ?_
        refine am_goto 30 dX1_momentsAhead_26 rfl ?_
        obtain rfl := Option.some.inj h3
        exact am_drop [0, 1, 3] rfl KK4
def f_X1_momentsAhead (M : am_M) (o : Nat) : Option (Int32) :=
  (l_X1_momentsAhead_6 M o 1000 (0 : Int32) (0 : Int32) (0 : Int32)).bind (fun z14 => some z14)
set_option maxHeartbeats 4000000 in
theorem w_X1_momentsAhead {K : am_K} {d : Nat} {post : Option am_V → am_M → Prop} {M : am_M} {o : Nat} {y : Int32} (h : f_X1_momentsAhead M o = some y) (hp : post (some (.inl y)) M) : am_W K d m_X1_momentsAhead 0 [(0, .inr (.inr (1, o, 0)))] [] M post := by
  unfold f_X1_momentsAhead at h
  refine am_iconst dX1_momentsAhead_0 ic_0 ?_
  refine am_istore_n (ls' := [(0, .inr (.inr (1, o, 0))), (1, .inl (0 : Int32))]) dX1_momentsAhead_1 (Nat.le_of_ble_eq_true rfl) rfl ?_
  refine am_iconst dX1_momentsAhead_2 ic_0 ?_
  refine am_istore_n (ls' := [(0, .inr (.inr (1, o, 0))), (1, .inl (0 : Int32)), (2, .inl (0 : Int32))]) dX1_momentsAhead_3 (Nat.le_of_ble_eq_true rfl) rfl ?_
  refine am_iconst dX1_momentsAhead_4 ic_0 ?_
  refine am_istore_n (ls' := [(0, .inr (.inr (1, o, 0))), (1, .inl (0 : Int32)), (2, .inl (0 : Int32)), (3, .inl (0 : Int32))]) dX1_momentsAhead_5 (Nat.le_of_ble_eq_true rfl) rfl ?_
  obtain ⟨z14, h15, h⟩ := am_bnd h
  have KK16 : am_W K d m_X1_momentsAhead 50 [(1, .inl z14)] [] M post := by
    refine am_iload_n dX1_momentsAhead_50 rfl ?_
    obtain rfl := Option.some.inj h
    exact am_ireturn dX1_momentsAhead_51 rfl rfl hp
  exact am_drop [0, 1, 2, 3] rfl (wl_X1_momentsAhead_6 _ _ _ _ _ h15 KK16)
theorem c_X1_momentsAhead {K : am_K} {d : Nat} {M : am_M} {o : Nat} {y : Int32} (h : f_X1_momentsAhead M o = some y) : am_Met K d m_X1_momentsAhead [.inr (.inr (1, o, 0))] M (fun q N => q = some (.inl y) ∧ N = M) :=
  am_Met_of cb_X1_momentsAhead (Nat.le_of_ble_eq_true rfl) (w_X1_momentsAhead h ⟨rfl, rfl⟩)
def f_X1_takeOver (M : am_M) (o : Nat) (o1 : Nat) : Option (am_M) :=
  am_let (am_si M 1 o 0 0 (M.1 1 o1 0 0)) (fun M1 => am_let (am_si M1 1 o 0 1 (M1.1 1 o1 0 1)) (fun M2 => am_let (am_si M2 1 o 0 2 (M2.1 1 o1 0 2)) (fun M3 => am_let (am_si M3 1 o 0 6 (M3.1 1 o1 0 6)) (fun M4 => am_let (am_si M4 1 o 0 7 (M4.1 1 o1 0 7)) (fun M5 => am_let (am_si M5 1 o 0 9 (M5.1 1 o1 0 9)) (fun M6 => am_let (am_si M6 1 o 0 13 (M6.1 1 o1 0 13)) (fun M7 => if (¬ (0 : Int32) < 0 ∧ ¬ (0 : Int32) < 0 ∧ ¬ (4 : Int32) < 0 ∧ (0 : Int32).toNatClampNeg + (4 : Int32).toNatClampNeg ≤ 4 ∧ (0 : Int32).toNatClampNeg + (4 : Int32).toNatClampNeg ≤ 4) then am_let (am_ri M7 203 o 0 (va_cpy (fun j => M7.1 203 o1 0 j) (fun j => M7.1 203 o 0 j) (0 : Int32).toNatClampNeg (0 : Int32).toNatClampNeg (4 : Int32).toNatClampNeg)) (fun M9 => if (¬ (0 : Int32) < 0 ∧ ¬ (0 : Int32) < 0 ∧ ¬ (4 : Int32) < 0 ∧ (0 : Int32).toNatClampNeg + (4 : Int32).toNatClampNeg ≤ 4 ∧ (0 : Int32).toNatClampNeg + (4 : Int32).toNatClampNeg ≤ 4) then am_let (am_ri M9 204 o 0 (va_cpy (fun j => M9.1 204 o1 0 j) (fun j => M9.1 204 o 0 j) (0 : Int32).toNatClampNeg (0 : Int32).toNatClampNeg (4 : Int32).toNatClampNeg)) (fun M11 => if (¬ (0 : Int32) < 0 ∧ ¬ (0 : Int32) < 0 ∧ ¬ (4 : Int32) < 0 ∧ (0 : Int32).toNatClampNeg + (4 : Int32).toNatClampNeg ≤ 4 ∧ (0 : Int32).toNatClampNeg + (4 : Int32).toNatClampNeg ≤ 4) then am_let (am_ri M11 205 o 0 (va_cpy (fun j => M11.1 205 o1 0 j) (fun j => M11.1 205 o 0 j) (0 : Int32).toNatClampNeg (0 : Int32).toNatClampNeg (4 : Int32).toNatClampNeg)) (fun M13 => if (¬ (0 : Int32) < 0 ∧ ¬ (0 : Int32) < 0 ∧ ¬ (24 : Int32) < 0 ∧ (0 : Int32).toNatClampNeg + (24 : Int32).toNatClampNeg ≤ 24 ∧ (0 : Int32).toNatClampNeg + (24 : Int32).toNatClampNeg ≤ 24) then am_let (am_ri M13 208 o 0 (va_cpy (fun j => M13.1 208 o1 0 j) (fun j => M13.1 208 o 0 j) (0 : Int32).toNatClampNeg (0 : Int32).toNatClampNeg (24 : Int32).toNatClampNeg)) (fun M15 => if (¬ (0 : Int32) < 0 ∧ ¬ (0 : Int32) < 0 ∧ ¬ (4 : Int32) < 0 ∧ (0 : Int32).toNatClampNeg + (4 : Int32).toNatClampNeg ≤ 4 ∧ (0 : Int32).toNatClampNeg + (4 : Int32).toNatClampNeg ≤ 4) then am_let (am_ri M15 210 o 0 (va_cpy (fun j => M15.1 210 o1 0 j) (fun j => M15.1 210 o 0 j) (0 : Int32).toNatClampNeg (0 : Int32).toNatClampNeg (4 : Int32).toNatClampNeg)) (fun M17 => if (¬ (0 : Int32) < 0 ∧ ¬ (0 : Int32) < 0 ∧ ¬ (4 : Int32) < 0 ∧ (0 : Int32).toNatClampNeg + (4 : Int32).toNatClampNeg ≤ 4 ∧ (0 : Int32).toNatClampNeg + (4 : Int32).toNatClampNeg ≤ 4) then am_let (am_ri M17 211 o 0 (va_cpy (fun j => M17.1 211 o1 0 j) (fun j => M17.1 211 o 0 j) (0 : Int32).toNatClampNeg (0 : Int32).toNatClampNeg (4 : Int32).toNatClampNeg)) (fun M19 => if (¬ (0 : Int32) < 0 ∧ ¬ (0 : Int32) < 0 ∧ ¬ (4 : Int32) < 0 ∧ (0 : Int32).toNatClampNeg + (4 : Int32).toNatClampNeg ≤ 4 ∧ (0 : Int32).toNatClampNeg + (4 : Int32).toNatClampNeg ≤ 4) then am_let (am_ri M19 212 o 0 (va_cpy (fun j => M19.1 212 o1 0 j) (fun j => M19.1 212 o 0 j) (0 : Int32).toNatClampNeg (0 : Int32).toNatClampNeg (4 : Int32).toNatClampNeg)) (fun M21 => some M21) else none) else none) else none) else none) else none) else none) else none)))))))
set_option maxHeartbeats 4000000 in
theorem w_X1_takeOver {K : am_K} {d : Nat} {post : Option am_V → am_M → Prop} {M : am_M} {o : Nat} {o1 : Nat} {y : am_M} (h : f_X1_takeOver M o o1 = some y) (hp : post none y) : am_W K (d + 1) m_X1_takeOver 0 [(0, .inr (.inr (1, o, 0))), (1, .inr (.inr (1, o1, 0)))] [] M post := by
  unfold f_X1_takeOver at h
  refine am_aload_n dX1_takeOver_0 rfl ?_
  refine am_aload_n dX1_takeOver_1 rfl ?_
  refine am_getI dX1_takeOver_2 fl_RX1_40 sh_1 rfl hk_1 ?_
  obtain ⟨M1, eM1, h⟩ := am_letE h
  refine am_putI dX1_takeOver_5 fl_RX1_40 fp_X1_0 sh_1 rfl rfl rfl hk_1 ?_
  refine am_mem eM1 ?_
  refine am_aload_n dX1_takeOver_8 rfl ?_
  refine am_aload_n dX1_takeOver_9 rfl ?_
  refine am_getI dX1_takeOver_10 fl_RX1_37 sh_1 rfl hk_1 ?_
  obtain ⟨M2, eM2, h⟩ := am_letE h
  refine am_putI dX1_takeOver_13 fl_RX1_37 fp_X1_1 sh_1 rfl rfl rfl hk_1 ?_
  refine am_mem eM2 ?_
  refine am_aload_n dX1_takeOver_16 rfl ?_
  refine am_aload_n dX1_takeOver_17 rfl ?_
  refine am_getI dX1_takeOver_18 fl_RX1_43 sh_1 rfl hk_1 ?_
  obtain ⟨M3, eM3, h⟩ := am_letE h
  refine am_putI dX1_takeOver_21 fl_RX1_43 fp_X1_2 sh_1 rfl rfl rfl hk_1 ?_
  refine am_mem eM3 ?_
  refine am_aload_n dX1_takeOver_24 rfl ?_
  refine am_aload_n dX1_takeOver_25 rfl ?_
  refine am_getI dX1_takeOver_26 fl_RX1_49 sh_1 rfl hk_1 ?_
  obtain ⟨M4, eM4, h⟩ := am_letE h
  refine am_putI dX1_takeOver_29 fl_RX1_49 fp_X1_6 sh_1 rfl rfl rfl hk_1 ?_
  refine am_mem eM4 ?_
  refine am_aload_n dX1_takeOver_32 rfl ?_
  refine am_aload_n dX1_takeOver_33 rfl ?_
  refine am_getI dX1_takeOver_34 fl_RX1_60 sh_1 rfl hk_1 ?_
  obtain ⟨M5, eM5, h⟩ := am_letE h
  refine am_putI dX1_takeOver_37 fl_RX1_60 fp_X1_7 sh_1 rfl rfl rfl hk_1 ?_
  refine am_mem eM5 ?_
  refine am_aload_n dX1_takeOver_40 rfl ?_
  refine am_aload_n dX1_takeOver_41 rfl ?_
  refine am_getI dX1_takeOver_42 fl_RX1_46 sh_1 rfl hk_1 ?_
  obtain ⟨M6, eM6, h⟩ := am_letE h
  refine am_putI dX1_takeOver_45 fl_RX1_46 fp_X1_9 sh_1 rfl rfl rfl hk_1 ?_
  refine am_mem eM6 ?_
  refine am_aload_n dX1_takeOver_48 rfl ?_
  refine am_aload_n dX1_takeOver_49 rfl ?_
  refine am_getI dX1_takeOver_50 fl_RX1_33 sh_1 rfl hk_1 ?_
  obtain ⟨M7, eM7, h⟩ := am_letE h
  refine am_putI dX1_takeOver_53 fl_RX1_33 fp_X1_13 sh_1 rfl rfl rfl hk_1 ?_
  refine am_mem eM7 ?_
  refine am_aload_n dX1_takeOver_56 rfl ?_
  refine am_getR (o' := o1) dX1_takeOver_57 fl_RX1_9 sh_1 rfl rfl hk_1 ?_
  refine am_iconst dX1_takeOver_60 ic_0 ?_
  refine am_aload_n dX1_takeOver_61 rfl ?_
  refine am_getR (o' := o) dX1_takeOver_62 fl_RX1_9 sh_1 rfl rfl hk_1 ?_
  refine am_iconst dX1_takeOver_65 ic_0 ?_
  refine am_iconst dX1_takeOver_66 ic_4 ?_
  obtain ⟨g8, h⟩ := am_grd h
  obtain ⟨M9, eM9, h⟩ := am_letE h
  refine am_copyI dX1_takeOver_67 cc_RX1_75 sh_203 sh_203 hk_203 hk_203 g8.1 g8.2.1 g8.2.2.1 g8.2.2.2.1 g8.2.2.2.2 (Nat.le_of_ble_eq_true rfl) ?_
  refine am_mem eM9 ?_
  refine am_aload_n dX1_takeOver_70 rfl ?_
  refine am_getR (o' := o1) dX1_takeOver_71 fl_RX1_15 sh_1 rfl rfl hk_1 ?_
  refine am_iconst dX1_takeOver_74 ic_0 ?_
  refine am_aload_n dX1_takeOver_75 rfl ?_
  refine am_getR (o' := o) dX1_takeOver_76 fl_RX1_15 sh_1 rfl rfl hk_1 ?_
  refine am_iconst dX1_takeOver_79 ic_0 ?_
  refine am_iconst dX1_takeOver_80 ic_4 ?_
  obtain ⟨g10, h⟩ := am_grd h
  obtain ⟨M11, eM11, h⟩ := am_letE h
  refine am_copyI dX1_takeOver_81 cc_RX1_75 sh_204 sh_204 hk_204 hk_204 g10.1 g10.2.1 g10.2.2.1 g10.2.2.2.1 g10.2.2.2.2 (Nat.le_of_ble_eq_true rfl) ?_
  refine am_mem eM11 ?_
  refine am_aload_n dX1_takeOver_84 rfl ?_
  refine am_getR (o' := o1) dX1_takeOver_85 fl_RX1_18 sh_1 rfl rfl hk_1 ?_
  refine am_iconst dX1_takeOver_88 ic_0 ?_
  refine am_aload_n dX1_takeOver_89 rfl ?_
  refine am_getR (o' := o) dX1_takeOver_90 fl_RX1_18 sh_1 rfl rfl hk_1 ?_
  refine am_iconst dX1_takeOver_93 ic_0 ?_
  refine am_iconst dX1_takeOver_94 ic_4 ?_
  obtain ⟨g12, h⟩ := am_grd h
  obtain ⟨M13, eM13, h⟩ := am_letE h
  refine am_copyI dX1_takeOver_95 cc_RX1_75 sh_205 sh_205 hk_205 hk_205 g12.1 g12.2.1 g12.2.2.1 g12.2.2.2.1 g12.2.2.2.2 (Nat.le_of_ble_eq_true rfl) ?_
  refine am_mem eM13 ?_
  refine am_aload_n dX1_takeOver_98 rfl ?_
  refine am_getR (o' := o1) dX1_takeOver_99 fl_RX1_21 sh_1 rfl rfl hk_1 ?_
  refine am_iconst dX1_takeOver_102 ic_0 ?_
  refine am_aload_n dX1_takeOver_103 rfl ?_
  refine am_getR (o' := o) dX1_takeOver_104 fl_RX1_21 sh_1 rfl rfl hk_1 ?_
  refine am_iconst dX1_takeOver_107 ic_0 ?_
  refine am_bipush dX1_takeOver_108 bp_24 ?_
  obtain ⟨g14, h⟩ := am_grd h
  obtain ⟨M15, eM15, h⟩ := am_letE h
  refine am_copyI dX1_takeOver_110 cc_RX1_75 sh_208 sh_208 hk_208 hk_208 g14.1 g14.2.1 g14.2.2.1 g14.2.2.2.1 g14.2.2.2.2 (Nat.le_of_ble_eq_true rfl) ?_
  refine am_mem eM15 ?_
  refine am_aload_n dX1_takeOver_113 rfl ?_
  refine am_getR (o' := o1) dX1_takeOver_114 fl_RX1_24 sh_1 rfl rfl hk_1 ?_
  refine am_iconst dX1_takeOver_117 ic_0 ?_
  refine am_aload_n dX1_takeOver_118 rfl ?_
  refine am_getR (o' := o) dX1_takeOver_119 fl_RX1_24 sh_1 rfl rfl hk_1 ?_
  refine am_iconst dX1_takeOver_122 ic_0 ?_
  refine am_iconst dX1_takeOver_123 ic_4 ?_
  obtain ⟨g16, h⟩ := am_grd h
  obtain ⟨M17, eM17, h⟩ := am_letE h
  refine am_copyI dX1_takeOver_124 cc_RX1_75 sh_210 sh_210 hk_210 hk_210 g16.1 g16.2.1 g16.2.2.1 g16.2.2.2.1 g16.2.2.2.2 (Nat.le_of_ble_eq_true rfl) ?_
  refine am_mem eM17 ?_
  refine am_aload_n dX1_takeOver_127 rfl ?_
  refine am_getR (o' := o1) dX1_takeOver_128 fl_RX1_27 sh_1 rfl rfl hk_1 ?_
  refine am_iconst dX1_takeOver_131 ic_0 ?_
  refine am_aload_n dX1_takeOver_132 rfl ?_
  refine am_getR (o' := o) dX1_takeOver_133 fl_RX1_27 sh_1 rfl rfl hk_1 ?_
  refine am_iconst dX1_takeOver_136 ic_0 ?_
  refine am_iconst dX1_takeOver_137 ic_4 ?_
  obtain ⟨g18, h⟩ := am_grd h
  obtain ⟨M19, eM19, h⟩ := am_letE h
  refine am_copyI dX1_takeOver_138 cc_RX1_75 sh_211 sh_211 hk_211 hk_211 g18.1 g18.2.1 g18.2.2.1 g18.2.2.2.1 g18.2.2.2.2 (Nat.le_of_ble_eq_true rfl) ?_
  refine am_mem eM19 ?_
  refine am_aload_n dX1_takeOver_141 rfl ?_
  refine am_getR (o' := o1) dX1_takeOver_142 fl_RX1_30 sh_1 rfl rfl hk_1 ?_
  refine am_iconst dX1_takeOver_145 ic_0 ?_
  refine am_aload_n dX1_takeOver_146 rfl ?_
  refine am_getR (o' := o) dX1_takeOver_147 fl_RX1_30 sh_1 rfl rfl hk_1 ?_
  refine am_iconst dX1_takeOver_150 ic_0 ?_
  refine am_iconst dX1_takeOver_151 ic_4 ?_
  obtain ⟨g20, h⟩ := am_grd h
  obtain ⟨M21, eM21, h⟩ := am_letE h
  refine am_copyI dX1_takeOver_152 cc_RX1_75 sh_212 sh_212 hk_212 hk_212 g20.1 g20.2.1 g20.2.2.1 g20.2.2.2.1 g20.2.2.2.2 (Nat.le_of_ble_eq_true rfl) ?_
  refine am_mem eM21 ?_
  obtain rfl := Option.some.inj h
  exact am_return dX1_takeOver_155 rfl hp
theorem c_X1_takeOver {K : am_K} {d : Nat} {M : am_M} {o : Nat} {o1 : Nat} {y : am_M} (h : f_X1_takeOver M o o1 = some y) : am_Met K (d + 1) m_X1_takeOver [.inr (.inr (1, o, 0)), .inr (.inr (1, o1, 0))] M (fun q N => q = none ∧ N = y) :=
  am_Met_of cb_X1_takeOver (Nat.le_of_ble_eq_true rfl) (w_X1_takeOver h ⟨rfl, rfl⟩)
def f_X2_becomeRow (M : am_M) (o : Nat) (x1 : Int32) (x2 : Int32) : Option (am_M) :=
  am_let (am_si M 2 o 0 0 x1) (fun M1 => am_let (am_si M1 2 o 0 1 x2) (fun M2 => (f_J7_fill_d0a16 M2 303 o 0 40 (0 : Int64)).bind (fun r4 => some r4)))
set_option maxHeartbeats 4000000 in
theorem w_X2_becomeRow {K : am_K} {d : Nat} {post : Option am_V → am_M → Prop} {M : am_M} {o : Nat} {x1 : Int32} {x2 : Int32} {y : am_M} (h : f_X2_becomeRow M o x1 x2 = some y) (hp : post none y) : am_W K (d + 1) m_X2_becomeRow 0 [(0, .inr (.inr (2, o, 0))), (1, .inl x1), (2, .inl x2)] [] M post := by
  unfold f_X2_becomeRow at h
  refine am_aload_n dX2_becomeRow_0 rfl ?_
  refine am_iload_n dX2_becomeRow_1 rfl ?_
  obtain ⟨M1, eM1, h⟩ := am_letE h
  refine am_putI dX2_becomeRow_2 fl_RX2_9 fp_X2_0 sh_2 rfl rfl rfl hk_2 ?_
  refine am_mem eM1 ?_
  refine am_aload_n dX2_becomeRow_5 rfl ?_
  refine am_iload_n dX2_becomeRow_6 rfl ?_
  obtain ⟨M2, eM2, h⟩ := am_letE h
  refine am_putI dX2_becomeRow_7 fl_RX2_19 fp_X2_1 sh_2 rfl rfl rfl hk_2 ?_
  refine am_mem eM2 ?_
  refine am_aload_n dX2_becomeRow_10 rfl ?_
  refine am_getR (o' := o) dX2_becomeRow_11 fl_RX2_15 sh_2 rfl rfl hk_2 ?_
  refine am_lconst dX2_becomeRow_14 lc_0 ?_
  obtain ⟨r4, c3, h⟩ := am_bnd h
  refine am_callSv (as := [.inr (.inr (303, o, 0)), .inr (.inl (0 : Int64))]) dX2_becomeRow_15 cs_RX2_22 cb_J7_fill_d0a16 rfl rfl (Nat.le_of_ble_eq_true rfl) (c_J7_fill_d0a16 sh_303 hk_303 c3) ?_
  obtain rfl := Option.some.inj h
  exact am_return dX2_becomeRow_18 rfl hp
theorem c_X2_becomeRow {K : am_K} {d : Nat} {M : am_M} {o : Nat} {x1 : Int32} {x2 : Int32} {y : am_M} (h : f_X2_becomeRow M o x1 x2 = some y) : am_Met K (d + 1) m_X2_becomeRow [.inr (.inr (2, o, 0)), .inl x1, .inl x2] M (fun q N => q = none ∧ N = y) :=
  am_Met_of cb_X2_becomeRow (Nat.le_of_ble_eq_true rfl) (w_X2_becomeRow h ⟨rfl, rfl⟩)
def f_X2_becomeDrawing (M : am_M) (o : Nat) (x1 : Int32) (x2 : Int32) : Option (am_M) :=
  am_let (am_si M 2 o 0 0 ((10 : Int32) + x1)) (fun M1 => am_let (am_si M1 2 o 0 1 (0 : Int32)) (fun M2 => am_let (am_si M2 2 o 0 2 x2) (fun M3 => some M3)))
set_option maxHeartbeats 4000000 in
theorem w_X2_becomeDrawing {K : am_K} {d : Nat} {post : Option am_V → am_M → Prop} {M : am_M} {o : Nat} {x1 : Int32} {x2 : Int32} {y : am_M} (h : f_X2_becomeDrawing M o x1 x2 = some y) (hp : post none y) : am_W K d m_X2_becomeDrawing 0 [(0, .inr (.inr (2, o, 0))), (1, .inl x1), (2, .inl x2)] [] M post := by
  unfold f_X2_becomeDrawing at h
  refine am_aload_n dX2_becomeDrawing_0 rfl ?_
  refine am_bipush dX2_becomeDrawing_1 bp_10 ?_
  refine am_iload_n dX2_becomeDrawing_3 rfl ?_
  refine am_iadd dX2_becomeDrawing_4 ?_
  obtain ⟨M1, eM1, h⟩ := am_letE h
  refine am_putI dX2_becomeDrawing_5 fl_RX2_9 fp_X2_0 sh_2 rfl rfl rfl hk_2 ?_
  refine am_mem eM1 ?_
  refine am_aload_n dX2_becomeDrawing_8 rfl ?_
  refine am_iconst dX2_becomeDrawing_9 ic_0 ?_
  obtain ⟨M2, eM2, h⟩ := am_letE h
  refine am_putI dX2_becomeDrawing_10 fl_RX2_19 fp_X2_1 sh_2 rfl rfl rfl hk_2 ?_
  refine am_mem eM2 ?_
  refine am_aload_n dX2_becomeDrawing_13 rfl ?_
  refine am_iload_n dX2_becomeDrawing_14 rfl ?_
  obtain ⟨M3, eM3, h⟩ := am_letE h
  refine am_putI dX2_becomeDrawing_15 fl_RX2_28 fp_X2_2 sh_2 rfl rfl rfl hk_2 ?_
  refine am_mem eM3 ?_
  obtain rfl := Option.some.inj h
  exact am_return dX2_becomeDrawing_18 rfl hp
theorem c_X2_becomeDrawing {K : am_K} {d : Nat} {M : am_M} {o : Nat} {x1 : Int32} {x2 : Int32} {y : am_M} (h : f_X2_becomeDrawing M o x1 x2 = some y) : am_Met K d m_X2_becomeDrawing [.inr (.inr (2, o, 0)), .inl x1, .inl x2] M (fun q N => q = none ∧ N = y) :=
  am_Met_of cb_X2_becomeDrawing (Nat.le_of_ble_eq_true rfl) (w_X2_becomeDrawing h ⟨rfl, rfl⟩)
def f_X2_isEmpty (M : am_M) (o : Nat) : Option (Int32) :=
  (if (M.1 2 o 0 0) = (-1 : Int32) then some (1 : Int32) else some (0 : Int32))
set_option maxHeartbeats 4000000 in
theorem w_X2_isEmpty {K : am_K} {d : Nat} {post : Option am_V → am_M → Prop} {M : am_M} {o : Nat} {y : Int32} (h : f_X2_isEmpty M o = some y) (hp : post (some (.inl y)) M) : am_W K d m_X2_isEmpty 0 [(0, .inr (.inr (2, o, 0)))] [] M post := by
  unfold f_X2_isEmpty at h
  refine am_aload_n dX2_isEmpty_0 rfl ?_
  refine am_getI dX2_isEmpty_1 fl_RX2_9 sh_2 rfl hk_2 ?_
  refine am_iconst dX2_isEmpty_4 ic_m1 ?_
  refine am_icmp_ne 12 dX2_isEmpty_5 rfl (fun b1 => ?_) (fun b1 => ?_)
  · replace h := am_ifF b1 h
    refine am_iconst dX2_isEmpty_12 ic_0 ?_
    obtain rfl := Option.some.inj h
    exact am_ireturn dX2_isEmpty_13 rfl (am_narZ (by decide)) hp
  · replace h := am_ifT b1 h
    refine am_iconst dX2_isEmpty_8 ic_1 ?_
    refine am_goto 13 dX2_isEmpty_9 rfl ?_
    obtain rfl := Option.some.inj h
    exact am_ireturn dX2_isEmpty_13 rfl (am_narZ (by decide)) hp
theorem c_X2_isEmpty {K : am_K} {d : Nat} {M : am_M} {o : Nat} {y : Int32} (h : f_X2_isEmpty M o = some y) : am_Met K d m_X2_isEmpty [.inr (.inr (2, o, 0))] M (fun q N => q = some (.inl y) ∧ N = M) :=
  am_Met_of cb_X2_isEmpty (Nat.le_of_ble_eq_true rfl) (w_X2_isEmpty h ⟨rfl, rfl⟩)
