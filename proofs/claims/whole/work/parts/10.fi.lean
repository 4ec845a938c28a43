def f_X5_holds_ (M : am_M) (o : Nat) (x1 : Int32) (x2 : Int32) (x3 : Int32) : Option (Int32) :=
  am_let (((2 : Int32) * x3) - x2) (fun v1 => if am_inb x1 4 = true then if am_inb x1 4 = true then (f_X5_in M x2.toInt64 ((M.1 715 o x1.toNatClampNeg (1 : Int32).toNatClampNeg).toInt64) ((M.1 715 o x1.toNatClampNeg (2 : Int32).toNatClampNeg).toInt64)).bind (fun r5 => if am_inb x1 4 = true then (if (M.1 715 o x1.toNatClampNeg (0 : Int32).toNatClampNeg) = (0 : Int32) then if am_inb x1 4 = true then (if x2 = (M.1 715 o x1.toNatClampNeg (1 : Int32).toNatClampNeg) then if am_inb x1 4 = true then (if x3 = (M.1 715 o x1.toNatClampNeg (2 : Int32).toNatClampNeg) then some (1 : Int32) else some (0 : Int32)) else none else some (1 : Int32)) else none else if (M.1 715 o x1.toNatClampNeg (0 : Int32).toNatClampNeg) = (1 : Int32) then (if r5 = 0 then some (1 : Int32) else (if v1 ≤ 0 then some (0 : Int32) else some (1 : Int32))) else if (M.1 715 o x1.toNatClampNeg (0 : Int32).toNatClampNeg) = (2 : Int32) then if am_inb x1 4 = true then (if x2 = (M.1 715 o x1.toNatClampNeg (1 : Int32).toNatClampNeg) then (if v1 = 0 then some (1 : Int32) else some (0 : Int32)) else some (1 : Int32)) else none else (if r5 = 0 then some (1 : Int32) else (if v1 < 0 then some (0 : Int32) else some (1 : Int32)))) else none) else none else none)
set_option maxHeartbeats 4000000 in
theorem w_X5_holds_ {K : am_K} {d : Nat} {post : Option am_V → am_M → Prop} {M : am_M} {o : Nat} {x1 : Int32} {x2 : Int32} {x3 : Int32} {y : Int32} (h : f_X5_holds_ M o x1 x2 x3 = some y) (hp : post (some (.inl y)) M) : am_W K (d + 1) m_X5_holds_ 0 [(0, .inr (.inr (5, o, 0))), (1, .inl x1), (2, .inl x2), (3, .inl x3)] [] M post := by
  unfold f_X5_holds_ at h
  refine am_iconst dX5_holds__0 ic_2 ?_
  refine am_iload_n dX5_holds__1 rfl ?_
  refine am_imul dX5_holds__2 ?_
  refine am_iload_n dX5_holds__3 rfl ?_
  refine am_isub dX5_holds__4 ?_
  obtain ⟨v1, ev1, h⟩ := am_letE h
  refine am_topI ev1 ?_
  refine am_istore (ls' := [(0, .inr (.inr (5, o, 0))), (1, .inl x1), (2, .inl x2), (3, .inl x3), (4, .inl v1)]) dX5_holds__5 (Nat.le_of_ble_eq_true rfl) rfl ?_
  refine am_iload_n dX5_holds__7 rfl ?_
  refine am_i2l dX5_holds__8 ?_
  refine am_aload_n dX5_holds__9 rfl ?_
  refine am_getR (o' := o) dX5_holds__10 fl_RX5_51 sh_5 rfl rfl hk_5 ?_
  refine am_iload_n dX5_holds__13 rfl ?_
  obtain ⟨g2, h⟩ := am_grd h
  refine am_aaload dX5_holds__14 sh_615 rfl rfl hk_615 (am_inbE g2) ?_
  refine am_top (w := .inr (.inr (715, o, x1.toNatClampNeg))) rfl ?_
  refine am_iconst dX5_holds__15 ic_1 ?_
  refine am_iaload dX5_holds__16 sh_715 hk_715 (am_inbE (by decide)) ?_
  refine am_i2l dX5_holds__17 ?_
  refine am_aload_n dX5_holds__18 rfl ?_
  refine am_getR (o' := o) dX5_holds__19 fl_RX5_51 sh_5 rfl rfl hk_5 ?_
  refine am_iload_n dX5_holds__22 rfl ?_
  obtain ⟨g3, h⟩ := am_grd h
  refine am_aaload dX5_holds__23 sh_615 rfl rfl hk_615 (am_inbE g3) ?_
  refine am_top (w := .inr (.inr (715, o, x1.toNatClampNeg))) rfl ?_
  refine am_iconst dX5_holds__24 ic_2 ?_
  refine am_iaload dX5_holds__25 sh_715 hk_715 (am_inbE (by decide)) ?_
  refine am_i2l dX5_holds__26 ?_
  obtain ⟨r5, c4, h⟩ := am_bnd h
  refine am_callSi (as := [.inr (.inl x2.toInt64), .inr (.inl ((M.1 715 o x1.toNatClampNeg (1 : Int32).toNatClampNeg).toInt64)), .inr (.inl ((M.1 715 o x1.toNatClampNeg (2 : Int32).toNatClampNeg).toInt64))]) dX5_holds__27 cs_RX5_95 cb_X5_in rfl rfl (Nat.le_of_ble_eq_true rfl) (c_X5_in c4) ?_
  refine am_istore (ls' := [(0, .inr (.inr (5, o, 0))), (1, .inl x1), (2, .inl x2), (3, .inl x3), (4, .inl v1), (5, .inl r5)]) dX5_holds__30 (Nat.le_of_ble_eq_true rfl) rfl ?_
  refine am_aload_n dX5_holds__32 rfl ?_
  refine am_getR (o' := o) dX5_holds__33 fl_RX5_51 sh_5 rfl rfl hk_5 ?_
  refine am_iload_n dX5_holds__36 rfl ?_
  obtain ⟨g6, h⟩ := am_grd h
  refine am_aaload dX5_holds__37 sh_615 rfl rfl hk_615 (am_inbE g6) ?_
  refine am_top (w := .inr (.inr (715, o, x1.toNatClampNeg))) rfl ?_
  refine am_iconst dX5_holds__38 ic_0 ?_
  refine am_iaload dX5_holds__39 sh_715 hk_715 (am_inbE (by decide)) ?_
  by_cases b7 : (M.1 715 o x1.toNatClampNeg (0 : Int32).toNatClampNeg) = (0 : Int32)
  · replace h := am_ifT b7 h
    skip
    refine am_swIn 68 dX5_holds__40 (by rw [b7]; decide) (by rw [b7]; decide) (by rw [b7]; rfl) rfl ?_
    refine am_iload_n dX5_holds__68 rfl ?_
    refine am_aload_n dX5_holds__69 rfl ?_
    refine am_getR (o' := o) dX5_holds__70 fl_RX5_51 sh_5 rfl rfl hk_5 ?_
    refine am_iload_n dX5_holds__73 rfl ?_
    obtain ⟨g8, h⟩ := am_grd h
    refine am_aaload dX5_holds__74 sh_615 rfl rfl hk_615 (am_inbE g8) ?_
    refine am_top (w := .inr (.inr (715, o, x1.toNatClampNeg))) rfl ?_
    refine am_iconst dX5_holds__75 ic_1 ?_
    refine am_iaload dX5_holds__76 sh_715 hk_715 (am_inbE (by decide)) ?_
    refine am_icmp_ne 92 dX5_holds__77 rfl (fun b11 => ?_) (fun b11 => ?_)
    · replace h := am_ifF b11 h
      refine am_iconst dX5_holds__92 ic_1 ?_
      refine am_goto 97 dX5_holds__93 rfl ?_
      obtain rfl := Option.some.inj h
      exact am_ireturn dX5_holds__97 rfl (am_narZ (by decide)) hp
    · replace h := am_ifT b11 h
      refine am_iload_n dX5_holds__80 rfl ?_
      refine am_aload_n dX5_holds__81 rfl ?_
      refine am_getR (o' := o) dX5_holds__82 fl_RX5_51 sh_5 rfl rfl hk_5 ?_
      refine am_iload_n dX5_holds__85 rfl ?_
      obtain ⟨g9, h⟩ := am_grd h
      refine am_aaload dX5_holds__86 sh_615 rfl rfl hk_615 (am_inbE g9) ?_
      refine am_top (w := .inr (.inr (715, o, x1.toNatClampNeg))) rfl ?_
      refine am_iconst dX5_holds__87 ic_2 ?_
      refine am_iaload dX5_holds__88 sh_715 hk_715 (am_inbE (by decide)) ?_
      refine am_icmp_ne 96 dX5_holds__89 rfl (fun b10 => ?_) (fun b10 => ?_)
      · replace h := am_ifF b10 h
        refine am_iconst dX5_holds__96 ic_0 ?_
        obtain rfl := Option.some.inj h
        exact am_ireturn dX5_holds__97 rfl (am_narZ (by decide)) hp
      · replace h := am_ifT b10 h
        refine am_iconst dX5_holds__92 ic_1 ?_
        refine am_goto 97 dX5_holds__93 rfl ?_
        obtain rfl := Option.some.inj h
        exact am_ireturn dX5_holds__97 rfl (am_narZ (by decide)) hp
  replace h := am_ifF b7 h
  by_cases b12 : (M.1 715 o x1.toNatClampNeg (0 : Int32).toNatClampNeg) = (1 : Int32)
  · replace h := am_ifT b12 h
    skip
    refine am_swIn 98 dX5_holds__40 (by rw [b12]; decide) (by rw [b12]; decide) (by rw [b12]; rfl) rfl ?_
    refine am_iload dX5_holds__98 rfl ?_
    refine am_if_eq 108 dX5_holds__100 rfl (fun b14 => ?_) (fun b14 => ?_)
    · replace h := am_ifT b14 h
      refine am_iconst dX5_holds__108 ic_1 ?_
      refine am_goto 113 dX5_holds__109 rfl ?_
      obtain rfl := Option.some.inj h
      exact am_ireturn dX5_holds__113 rfl (am_narZ (by decide)) hp
    · replace h := am_ifF b14 h
      refine am_iload dX5_holds__103 rfl ?_
      refine am_if_le 112 dX5_holds__105 rfl (fun b13 => ?_) (fun b13 => ?_)
      · replace h := am_ifT b13 h
        refine am_iconst dX5_holds__112 ic_0 ?_
        obtain rfl := Option.some.inj h
        exact am_ireturn dX5_holds__113 rfl (am_narZ (by decide)) hp
      · replace h := am_ifF b13 h
        refine am_iconst dX5_holds__108 ic_1 ?_
        refine am_goto 113 dX5_holds__109 rfl ?_
        obtain rfl := Option.some.inj h
        exact am_ireturn dX5_holds__113 rfl (am_narZ (by decide)) hp
  replace h := am_ifF b12 h
  by_cases b15 : (M.1 715 o x1.toNatClampNeg (0 : Int32).toNatClampNeg) = (2 : Int32)
  · replace h := am_ifT b15 h
    skip
    refine am_swIn 114 dX5_holds__40 (by rw [b15]; decide) (by rw [b15]; decide) (by rw [b15]; rfl) rfl ?_
    refine am_iload_n dX5_holds__114 rfl ?_
    refine am_aload_n dX5_holds__115 rfl ?_
    refine am_getR (o' := o) dX5_holds__116 fl_RX5_51 sh_5 rfl rfl hk_5 ?_
    refine am_iload_n dX5_holds__119 rfl ?_
    obtain ⟨g16, h⟩ := am_grd h
    refine am_aaload dX5_holds__120 sh_615 rfl rfl hk_615 (am_inbE g16) ?_
    refine am_top (w := .inr (.inr (715, o, x1.toNatClampNeg))) rfl ?_
    refine am_iconst dX5_holds__121 ic_1 ?_
    refine am_iaload dX5_holds__122 sh_715 hk_715 (am_inbE (by decide)) ?_
    refine am_icmp_ne 131 dX5_holds__123 rfl (fun b18 => ?_) (fun b18 => ?_)
    · replace h := am_ifF b18 h
      refine am_iconst dX5_holds__131 ic_1 ?_
      refine am_goto 136 dX5_holds__132 rfl ?_
      obtain rfl := Option.some.inj h
      exact am_ireturn dX5_holds__136 rfl (am_narZ (by decide)) hp
    · replace h := am_ifT b18 h
      refine am_iload dX5_holds__126 rfl ?_
      refine am_if_ne 135 dX5_holds__128 rfl (fun b17 => ?_) (fun b17 => ?_)
      · replace h := am_ifF b17 h
        refine am_iconst dX5_holds__135 ic_0 ?_
        obtain rfl := Option.some.inj h
        exact am_ireturn dX5_holds__136 rfl (am_narZ (by decide)) hp
      · replace h := am_ifT b17 h
        refine am_iconst dX5_holds__131 ic_1 ?_
        refine am_goto 136 dX5_holds__132 rfl ?_
        obtain rfl := Option.some.inj h
        exact am_ireturn dX5_holds__136 rfl (am_narZ (by decide)) hp
  replace h := am_ifF b15 h
  have nb7 : ¬ ((M.1 715 o x1.toNatClampNeg (0 : Int32).toNatClampNeg)).toInt = 0 := am_neI b7
  have nb12 : ¬ ((M.1 715 o x1.toNatClampNeg (0 : Int32).toNatClampNeg)).toInt = 1 := am_neI b12
  have nb15 : ¬ ((M.1 715 o x1.toNatClampNeg (0 : Int32).toNatClampNeg)).toInt = 2 := am_neI b15
  refine am_swOut 137 dX5_holds__40 (by omega) rfl ?_
  refine am_iload dX5_holds__137 rfl ?_
  refine am_if_eq 147 dX5_holds__139 rfl (fun b20 => ?_) (fun b20 => ?_)
  · replace h := am_ifT b20 h
    refine am_iconst dX5_holds__147 ic_1 ?_
    refine am_goto 152 dX5_holds__148 rfl ?_
    obtain rfl := Option.some.inj h
    exact am_ireturn dX5_holds__152 rfl (am_narZ (by decide)) hp
  · replace h := am_ifF b20 h
    refine am_iload dX5_holds__142 rfl ?_
    refine am_if_lt 151 dX5_holds__144 rfl (fun b19 => ?_) (fun b19 => ?_)
    · replace h := am_ifT b19 h
      refine am_iconst dX5_holds__151 ic_0 ?_
      obtain rfl := Option.some.inj h
      exact am_ireturn dX5_holds__152 rfl (am_narZ (by decide)) hp
    · replace h := am_ifF b19 h
      refine am_iconst dX5_holds__147 ic_1 ?_
      refine am_goto 152 dX5_holds__148 rfl ?_
      obtain rfl := Option.some.inj h
      exact am_ireturn dX5_holds__152 rfl (am_narZ (by decide)) hp
theorem c_X5_holds_ {K : am_K} {d : Nat} {M : am_M} {o : Nat} {x1 : Int32} {x2 : Int32} {x3 : Int32} {y : Int32} (h : f_X5_holds_ M o x1 x2 x3 = some y) : am_Met K (d + 1) m_X5_holds_ [.inr (.inr (5, o, 0)), .inl x1, .inl x2, .inl x3] M (fun q N => q = some (.inl y) ∧ N = M) :=
  am_Met_of cb_X5_holds_ (Nat.le_of_ble_eq_true rfl) (w_X5_holds_ h ⟨rfl, rfl⟩)
def l_X5_readA_4 (M : am_M) (o0a : Nat) (a1 : Int32) : Nat → Int32 → Int32 → Option (Int32)
  | 0, _, _ => none
  | n + 1, a2, a3 => (if a1 ≤ a3 then some a2 else if am_inb a3 24 = true then am_let (a2 + (M.1 617 o0a 0 a3.toNatClampNeg)) (fun v2 => am_let (a3 + (1 : Int32)) (fun v3 => l_X5_readA_4 M o0a a1 n v2 v3)) else none)
set_option maxHeartbeats 4000000 in
theorem wl_X5_readA_4 {K : am_K} {d : Nat} {post : Option am_V → am_M → Prop} {M : am_M} {o0a : Nat} {a1 : Int32} : ∀ (n : Nat) (a2 : Int32) (a3 : Int32) (x : Int32), l_X5_readA_4 M o0a a1 n a2 a3 = some x → am_W K d m_X5_readA 24 [(2, .inl x)] [] M post → am_W K d m_X5_readA 4 [(0, .inr (.inr (5, o0a, 0))), (1, .inl a1), (2, .inl a2), (3, .inl a3)] [] M post := by
  intro n
  induction n with
  | zero => intro a2 a3 x h KX; cases h
  | succ n ih =>
    intro a2 a3 x h KX
    rw [l_X5_readA_4] at h
    refine am_iload_n dX5_readA_4 rfl ?_
    refine am_iload_n dX5_readA_5 rfl ?_
    refine am_icmp_ge 24 dX5_readA_6 rfl (fun b4 => ?_) (fun b4 => ?_)
    · replace h := am_ifT b4 h
      obtain rfl := Option.some.inj h
      exact am_drop [2] rfl KX
    · replace h := am_ifF b4 h
      refine am_iload_n dX5_readA_9 rfl ?_
      refine am_aload_n dX5_readA_10 rfl ?_
      refine am_getR (o' := o0a) dX5_readA_11 fl_RX5_54 sh_5 rfl rfl hk_5 ?_
      refine am_iload_n dX5_readA_14 rfl ?_
      obtain ⟨g1, h⟩ := am_grd h
      refine am_iaload dX5_readA_15 sh_617 hk_617 (am_inbE g1) ?_
      refine am_iadd dX5_readA_16 ?_
      obtain ⟨v2, ev2, h⟩ := am_letE h
      refine am_topI ev2 ?_
      refine am_istore_n (ls' := [(0, .inr (.inr (5, o0a, 0))), (1, .inl a1), (2, .inl v2), (3, .inl a3)]) dX5_readA_17 (Nat.le_of_ble_eq_true rfl) rfl ?_
      obtain ⟨v3, ev3, h⟩ := am_letE h
      refine am_iinc (ls' := [(0, .inr (.inr (5, o0a, 0))), (1, .inl a1), (2, .inl v2), (3, .inl v3)]) dX5_readA_18 rfl ((congrArg (fun z => a3 + z) ic_1).trans ev3.symm) (Nat.le_of_ble_eq_true rfl) rfl ?_
      refine am_goto 4 dX5_readA_21 rfl ?_
      exact am_drop [0, 1, 2, 3] rfl (ih _ _ _ h KX)
def f_X5_readA (M : am_M) (o : Nat) (x1 : Int32) : Option (Int32) :=
  (l_X5_readA_4 M o x1 1000 (0 : Int32) (0 : Int32)).bind (fun z5 => some z5)
set_option maxHeartbeats 4000000 in
theorem w_X5_readA {K : am_K} {d : Nat} {post : Option am_V → am_M → Prop} {M : am_M} {o : Nat} {x1 : Int32} {y : Int32} (h : f_X5_readA M o x1 = some y) (hp : post (some (.inl y)) M) : am_W K d m_X5_readA 0 [(0, .inr (.inr (5, o, 0))), (1, .inl x1)] [] M post := by
  unfold f_X5_readA at h
  refine am_iconst dX5_readA_0 ic_0 ?_
  refine am_istore_n (ls' := [(0, .inr (.inr (5, o, 0))), (1, .inl x1), (2, .inl (0 : Int32))]) dX5_readA_1 (Nat.le_of_ble_eq_true rfl) rfl ?_
  refine am_iconst dX5_readA_2 ic_0 ?_
  refine am_istore_n (ls' := [(0, .inr (.inr (5, o, 0))), (1, .inl x1), (2, .inl (0 : Int32)), (3, .inl (0 : Int32))]) dX5_readA_3 (Nat.le_of_ble_eq_true rfl) rfl ?_
  obtain ⟨z5, h6, h⟩ := am_bnd h
  have KK7 : am_W K d m_X5_readA 24 [(2, .inl z5)] [] M post := by
    refine am_iload_n dX5_readA_24 rfl ?_
    obtain rfl := Option.some.inj h
    exact am_ireturn dX5_readA_25 rfl rfl hp
  exact am_drop [0, 1, 2, 3] rfl (wl_X5_readA_4 _ _ _ _ h6 KK7)
theorem c_X5_readA {K : am_K} {d : Nat} {M : am_M} {o : Nat} {x1 : Int32} {y : Int32} (h : f_X5_readA M o x1 = some y) : am_Met K d m_X5_readA [.inr (.inr (5, o, 0)), .inl x1] M (fun q N => q = some (.inl y) ∧ N = M) :=
  am_Met_of cb_X5_readA (Nat.le_of_ble_eq_true rfl) (w_X5_readA h ⟨rfl, rfl⟩)
def l_X5_isFit_26 (M : am_M) (o0a : Nat) (a1 : Int32) (a2 : Int32) : Nat → Int32 → Int32 → Option (Int32)
  | 0, _, _ => none
  | n + 1, a3, a4 => (if (M.1 5 o0a 0 14) ≤ a4 then some a3 else (f_X5_holds_ M o0a a4 a1 a2).bind (fun r9 => am_let (a3 &&& r9) (fun v10 => am_let (a4 + (1 : Int32)) (fun v11 => l_X5_isFit_26 M o0a a1 a2 n v10 v11))))
set_option maxHeartbeats 4000000 in
theorem wl_X5_isFit_26 {K : am_K} {d : Nat} {post : Option am_V → am_M → Prop} {M : am_M} {o0a : Nat} {a1 : Int32} {a2 : Int32} : ∀ (n : Nat) (a3 : Int32) (a4 : Int32) (x : Int32), l_X5_isFit_26 M o0a a1 a2 n a3 a4 = some x → am_W K (d + 2) m_X5_isFit 52 [(3, .inl x)] [] M post → am_W K (d + 2) m_X5_isFit 26 [(0, .inr (.inr (5, o0a, 0))), (1, .inl a1), (2, .inl a2), (3, .inl a3), (4, .inl a4)] [] M post := by
  intro n
  induction n with
  | zero => intro a3 a4 x h KX; cases h
  | succ n ih =>
    intro a3 a4 x h KX
    rw [l_X5_isFit_26] at h
    refine am_iload dX5_isFit_26 rfl ?_
    refine am_aload_n dX5_isFit_28 rfl ?_
    refine am_getI dX5_isFit_29 fl_RX5_151 sh_5 rfl hk_5 ?_
    refine am_icmp_ge 52 dX5_isFit_32 rfl (fun b12 => ?_) (fun b12 => ?_)
    · replace h := am_ifT b12 h
      obtain rfl := Option.some.inj h
      exact am_drop [3] rfl KX
    · replace h := am_ifF b12 h
      refine am_iload_n dX5_isFit_35 rfl ?_
      refine am_aload_n dX5_isFit_36 rfl ?_
      refine am_iload dX5_isFit_37 rfl ?_
      refine am_iload_n dX5_isFit_39 rfl ?_
      refine am_iload_n dX5_isFit_40 rfl ?_
      obtain ⟨r9, c8, h⟩ := am_bnd h
      refine am_callVi (as := [.inl a4, .inl a1, .inl a2]) dX5_isFit_41 cv_RX5_260 cb_X5_holds_ sh_5 rfl hk_5 rfl rfl (Nat.le_of_ble_eq_true rfl) (c_X5_holds_ c8) ?_
      refine am_iand dX5_isFit_44 ?_
      obtain ⟨v10, ev10, h⟩ := am_letE h
      refine am_topI ev10 ?_
      refine am_istore_n (ls' := [(0, .inr (.inr (5, o0a, 0))), (1, .inl a1), (2, .inl a2), (3, .inl v10), (4, .inl a4)]) dX5_isFit_45 (Nat.le_of_ble_eq_true rfl) rfl ?_
      obtain ⟨v11, ev11, h⟩ := am_letE h
      refine am_iinc (ls' := [(0, .inr (.inr (5, o0a, 0))), (1, .inl a1), (2, .inl a2), (3, .inl v10), (4, .inl v11)]) dX5_isFit_46 rfl ((congrArg (fun z => a4 + z) ic_1).trans ev11.symm) (Nat.le_of_ble_eq_true rfl) rfl ?_
      refine am_goto 26 dX5_isFit_49 rfl ?_
      exact am_drop [0, 1, 2, 3, 4] rfl (ih _ _ _ h KX)
def f_X5_isFit (M : am_M) (o : Nat) (x1 : Int32) (x2 : Int32) : Option (Int32) :=
  ((if (M.1 5 o 0 16) < x1 then some (1 : Int32) else (f_X5_readA M o x1).bind (fun r5 => (if x2 = r5 then some (1 : Int32) else some (0 : Int32)))) : Option (Int32)).bind (fun z1 => (l_X5_isFit_26 M o x1 x2 1000 z1 (0 : Int32)).bind (fun z13 => if (z13 = 0 ∨ z13 = 1) then some z13 else none))
set_option maxHeartbeats 4000000 in
theorem w_X5_isFit {K : am_K} {d : Nat} {post : Option am_V → am_M → Prop} {M : am_M} {o : Nat} {x1 : Int32} {x2 : Int32} {y : Int32} (h : f_X5_isFit M o x1 x2 = some y) (hp : post (some (.inl y)) M) : am_W K (d + 2) m_X5_isFit 0 [(0, .inr (.inr (5, o, 0))), (1, .inl x1), (2, .inl x2)] [] M post := by
  unfold f_X5_isFit at h
  refine am_iload_n dX5_isFit_0 rfl ?_
  refine am_aload_n dX5_isFit_1 rfl ?_
  refine am_getI dX5_isFit_2 fl_RX5_137 sh_5 rfl hk_5 ?_
  obtain ⟨z1, h2, h⟩ := am_bnd h
  have KK3 : am_W K (d + 2) m_X5_isFit 22 [(0, .inr (.inr (5, o, 0))), (1, .inl x1), (2, .inl x2)] [.inl z1] M post := by
    refine am_istore_n (ls' := [(0, .inr (.inr (5, o, 0))), (1, .inl x1), (2, .inl x2), (3, .inl z1)]) dX5_isFit_22 (Nat.le_of_ble_eq_true rfl) rfl ?_
    refine am_iconst dX5_isFit_23 ic_0 ?_
    refine am_istore (ls' := [(0, .inr (.inr (5, o, 0))), (1, .inl x1), (2, .inl x2), (3, .inl z1), (4, .inl (0 : Int32))]) dX5_isFit_24 (Nat.le_of_ble_eq_true rfl) rfl ?_
    obtain ⟨z13, h14, h⟩ := am_bnd h
    have KK15 : am_W K (d + 2) m_X5_isFit 52 [(3, .inl z13)] [] M post := by
      refine am_iload_n dX5_isFit_52 rfl ?_
      obtain ⟨g16, h⟩ := am_grd h
      obtain rfl := Option.some.inj h
      exact am_ireturn dX5_isFit_53 rfl (am_narZ g16) hp
    exact am_drop [0, 1, 2, 3, 4] rfl (wl_X5_isFit_26 _ _ _ _ h14 KK15)
  clear h
  refine am_icmp_gt 17 dX5_isFit_5 rfl (fun b7 => ?_) (fun b7 => ?_)
  · replace h2 := am_ifT b7 h2
    refine am_iconst dX5_isFit_17 ic_1 ?_
    refine am_goto 22 dX5_isFit_18 rfl ?_
    obtain rfl := Option.some.inj h2
    exact am_drop [0, 1, 2] rfl KK3
  · replace h2 := am_ifF b7 h2
    refine am_iload_n dX5_isFit_8 rfl ?_
    refine am_aload_n dX5_isFit_9 rfl ?_
    refine am_iload_n dX5_isFit_10 rfl ?_
    obtain ⟨r5, c4, h2⟩ := am_bnd h2
    refine am_callVi (as := [.inl x1]) dX5_isFit_11 cv_RX5_257 cb_X5_readA sh_5 rfl hk_5 rfl rfl (Nat.le_of_ble_eq_true rfl) (c_X5_readA c4) ?_
    refine am_icmp_ne 21 dX5_isFit_14 rfl (fun b6 => ?_) (fun b6 => ?_)
    · replace h2 := am_ifF b6 h2
      refine am_iconst dX5_isFit_21 ic_0 ?_
      obtain rfl := Option.some.inj h2
      exact am_drop [0, 1, 2] rfl KK3
    · replace h2 := am_ifT b6 h2
      refine am_iconst dX5_isFit_17 ic_1 ?_
      refine am_goto 22 dX5_isFit_18 rfl ?_
      obtain rfl := Option.some.inj h2
      exact am_drop [0, 1, 2] rfl KK3
theorem c_X5_isFit {K : am_K} {d : Nat} {M : am_M} {o : Nat} {x1 : Int32} {x2 : Int32} {y : Int32} (h : f_X5_isFit M o x1 x2 = some y) : am_Met K (d + 2) m_X5_isFit [.inr (.inr (5, o, 0)), .inl x1, .inl x2] M (fun q N => q = some (.inl y) ∧ N = M) :=
  am_Met_of cb_X5_isFit (Nat.le_of_ble_eq_true rfl) (w_X5_isFit h ⟨rfl, rfl⟩)
def l_X5_seeAll_16 (o0a : Nat) (a1 : Int32) : Nat → Int32 → am_M → Option (am_M)
  | 0, _, _ => none
  | n + 1, a2, M => (if a1 < a2 then some M else if am_inb a1 25 = true then if am_inb a2 25 = true then (f_X5_isFit M o0a a1 a2).bind (fun r6 => if am_inb a2 25 = true then if (((M.1 728 o0a a1.toNatClampNeg a2.toNatClampNeg) &&& r6) = 0 ∨ ((M.1 728 o0a a1.toNatClampNeg a2.toNatClampNeg) &&& r6) = 1) then am_let (am_si M 728 o0a a1.toNatClampNeg a2.toNatClampNeg ((M.1 728 o0a a1.toNatClampNeg a2.toNatClampNeg) &&& r6)) (fun M9 => am_let (a2 + (1 : Int32)) (fun v10 => l_X5_seeAll_16 o0a a1 n v10 M9)) else none else none) else none else none)
set_option maxHeartbeats 4000000 in
theorem wl_X5_seeAll_16 {K : am_K} {d : Nat} {post : Option am_V → am_M → Prop} {o0a : Nat} {a1 : Int32} : ∀ (n : Nat) (a2 : Int32) (M : am_M) (x : am_M), l_X5_seeAll_16 o0a a1 n a2 M = some x → am_W K (d + 3) m_X5_seeAll 44 [(0, .inr (.inr (5, o0a, 0))), (1, .inl a1)] [] x post → am_W K (d + 3) m_X5_seeAll 16 [(0, .inr (.inr (5, o0a, 0))), (1, .inl a1), (2, .inl a2)] [] M post := by
  intro n
  induction n with
  | zero => intro a2 M x h KX; cases h
  | succ n ih =>
    intro a2 M x h KX
    rw [l_X5_seeAll_16] at h
    refine am_iload_n dX5_seeAll_16 rfl ?_
    refine am_iload_n dX5_seeAll_17 rfl ?_
    refine am_icmp_gt 44 dX5_seeAll_18 rfl (fun b11 => ?_) (fun b11 => ?_)
    · replace h := am_ifT b11 h
      obtain rfl := Option.some.inj h
      exact am_drop [0, 1] rfl KX
    · replace h := am_ifF b11 h
      refine am_aload_n dX5_seeAll_21 rfl ?_
      refine am_getR (o' := o0a) dX5_seeAll_22 fl_RX5_66 sh_5 rfl rfl hk_5 ?_
      refine am_iload_n dX5_seeAll_25 rfl ?_
      obtain ⟨g3, h⟩ := am_grd h
      refine am_aaload dX5_seeAll_26 sh_628 rfl rfl hk_628 (am_inbE g3) ?_
      refine am_top (w := .inr (.inr (728, o0a, a1.toNatClampNeg))) rfl ?_
      refine am_iload_n dX5_seeAll_27 rfl ?_
      refine am_dup2 dX5_seeAll_28 rfl rfl ?_
      obtain ⟨g4, h⟩ := am_grd h
      refine am_zaload dX5_seeAll_29 sh_728 hk_728 (am_inbE g4) ?_
      refine am_aload_n dX5_seeAll_30 rfl ?_
      refine am_iload_n dX5_seeAll_31 rfl ?_
      refine am_iload_n dX5_seeAll_32 rfl ?_
      obtain ⟨r6, c5, h⟩ := am_bnd h
      refine am_callVi (as := [.inl a1, .inl a2]) dX5_seeAll_33 cv_RX5_266 cb_X5_isFit sh_5 rfl hk_5 rfl rfl (Nat.le_of_ble_eq_true rfl) (c_X5_isFit c5) ?_
      refine am_iand dX5_seeAll_36 ?_
      obtain ⟨g7, h⟩ := am_grd h
      obtain ⟨g8, h⟩ := am_grd h
      obtain ⟨M9, eM9, h⟩ := am_letE h
      refine am_zastore dX5_seeAll_37 sh_728 hk_728 (am_inbE g7) (am_nrvZ g8) ?_
      refine am_mem eM9 ?_
      obtain ⟨v10, ev10, h⟩ := am_letE h
      refine am_iinc (ls' := [(0, .inr (.inr (5, o0a, 0))), (1, .inl a1), (2, .inl v10)]) dX5_seeAll_38 rfl ((congrArg (fun z => a2 + z) ic_1).trans ev10.symm) (Nat.le_of_ble_eq_true rfl) rfl ?_
      refine am_goto 16 dX5_seeAll_41 rfl ?_
      exact am_drop [0, 1, 2] rfl (ih _ _ _ h KX)
def l_X5_seeAll_6 (o0a : Nat) : Nat → Int32 → am_M → Option (am_M)
  | 0, _, _ => none
  | n + 1, a1, M => (if (M.1 5 o0a 0 29) < a1 then some M else (l_X5_seeAll_16 o0a a1 1000 (0 : Int32) M).bind (fun z12 => am_let (a1 + (1 : Int32)) (fun v15 => l_X5_seeAll_6 o0a n v15 z12)))
set_option maxHeartbeats 4000000 in
theorem wl_X5_seeAll_6 {K : am_K} {d : Nat} {post : Option am_V → am_M → Prop} {o0a : Nat} : ∀ (n : Nat) (a1 : Int32) (M : am_M) (x : am_M), l_X5_seeAll_6 o0a n a1 M = some x → am_W K (d + 3) m_X5_seeAll 50 [] [] x post → am_W K (d + 3) m_X5_seeAll 6 [(0, .inr (.inr (5, o0a, 0))), (1, .inl a1)] [] M post := by
  intro n
  induction n with
  | zero => intro a1 M x h KX; cases h
  | succ n ih =>
    intro a1 M x h KX
    rw [l_X5_seeAll_6] at h
    refine am_iload_n dX5_seeAll_6 rfl ?_
    refine am_aload_n dX5_seeAll_7 rfl ?_
    refine am_getI dX5_seeAll_8 fl_RX5_254 sh_5 rfl hk_5 ?_
    refine am_icmp_gt 50 dX5_seeAll_11 rfl (fun b16 => ?_) (fun b16 => ?_)
    · replace h := am_ifT b16 h
      obtain rfl := Option.some.inj h
      exact am_drop [] rfl KX
    · replace h := am_ifF b16 h
      refine am_iconst dX5_seeAll_14 ic_0 ?_
      refine am_istore_n (ls' := [(0, .inr (.inr (5, o0a, 0))), (1, .inl a1), (2, .inl (0 : Int32))]) dX5_seeAll_15 (Nat.le_of_ble_eq_true rfl) rfl ?_
      obtain ⟨z12, h13, h⟩ := am_bnd h
      have KK14 : am_W K (d + 3) m_X5_seeAll 44 [(0, .inr (.inr (5, o0a, 0))), (1, .inl a1)] [] z12 post := by
        obtain ⟨v15, ev15, h⟩ := am_letE h
        refine am_iinc (ls' := [(0, .inr (.inr (5, o0a, 0))), (1, .inl v15)]) dX5_seeAll_44 rfl ((congrArg (fun z => a1 + z) ic_1).trans ev15.symm) (Nat.le_of_ble_eq_true rfl) rfl ?_
        refine am_goto 6 dX5_seeAll_47 rfl ?_
        exact am_drop [0, 1] rfl (ih _ _ _ h KX)
      exact am_drop [0, 1, 2] rfl (wl_X5_seeAll_16 _ _ _ _ h13 KK14)
def f_X5_seeAll (M : am_M) (o : Nat) : Option (am_M) :=
  (f_X5_seeHeaps M o).bind (fun r2 => (l_X5_seeAll_6 o 1000 (0 : Int32) r2).bind (fun z17 => some z17))
set_option maxHeartbeats 4000000 in
theorem w_X5_seeAll {K : am_K} {d : Nat} {post : Option am_V → am_M → Prop} {M : am_M} {o : Nat} {y : am_M} (h : f_X5_seeAll M o = some y) (hp : post none y) : am_W K (d + 3) m_X5_seeAll 0 [(0, .inr (.inr (5, o, 0)))] [] M post := by
  unfold f_X5_seeAll at h
  refine am_aload_n dX5_seeAll_0 rfl ?_
  obtain ⟨r2, c1, h⟩ := am_bnd h
  refine am_callVv (as := []) dX5_seeAll_1 cv_RX5_263 cb_X5_seeHeaps sh_5 rfl hk_5 rfl rfl (Nat.le_of_ble_eq_true rfl) (c_X5_seeHeaps c1) ?_
  refine am_iconst dX5_seeAll_4 ic_0 ?_
  refine am_istore_n (ls' := [(0, .inr (.inr (5, o, 0))), (1, .inl (0 : Int32))]) dX5_seeAll_5 (Nat.le_of_ble_eq_true rfl) rfl ?_
  obtain ⟨z17, h18, h⟩ := am_bnd h
  have KK19 : am_W K (d + 3) m_X5_seeAll 50 [] [] z17 post := by
    obtain rfl := Option.some.inj h
    exact am_return dX5_seeAll_50 rfl hp
  exact am_drop [0, 1] rfl (wl_X5_seeAll_6 _ _ _ _ h18 KK19)
theorem c_X5_seeAll {K : am_K} {d : Nat} {M : am_M} {o : Nat} {y : am_M} (h : f_X5_seeAll M o = some y) : am_Met K (d + 3) m_X5_seeAll [.inr (.inr (5, o, 0))] M (fun q N => q = none ∧ N = y) :=
  am_Met_of cb_X5_seeAll (Nat.le_of_ble_eq_true rfl) (w_X5_seeAll h ⟨rfl, rfl⟩)
def f_X5_through (M : am_M) (o : Nat) (x1 : Int32) (x2 : Int32) : Option (Int64) :=
  if am_inb x1 25 = true then if am_inb x2 25 = true then if am_inb x1 25 = true then if am_inb x2 25 = true then some ((M.2 730 o x1.toNatClampNeg x2.toNatClampNeg) * (M.2 731 o x1.toNatClampNeg x2.toNatClampNeg)) else none else none else none else none
set_option maxHeartbeats 4000000 in
theorem w_X5_through {K : am_K} {d : Nat} {post : Option am_V → am_M → Prop} {M : am_M} {o : Nat} {x1 : Int32} {x2 : Int32} {y : Int64} (h : f_X5_through M o x1 x2 = some y) (hp : post (some (.inr (.inl y))) M) : am_W K d m_X5_through 0 [(0, .inr (.inr (5, o, 0))), (1, .inl x1), (2, .inl x2)] [] M post := by
  unfold f_X5_through at h
  refine am_aload_n dX5_through_0 rfl ?_
  refine am_getR (o' := o) dX5_through_1 fl_RX5_69 sh_5 rfl rfl hk_5 ?_
  refine am_iload_n dX5_through_4 rfl ?_
  obtain ⟨g1, h⟩ := am_grd h
  refine am_aaload dX5_through_5 sh_630 rfl rfl hk_630 (am_inbE g1) ?_
  refine am_top (w := .inr (.inr (730, o, x1.toNatClampNeg))) rfl ?_
  refine am_iload_n dX5_through_6 rfl ?_
  obtain ⟨g2, h⟩ := am_grd h
  refine am_laload dX5_through_7 sh_730 hk_730 (am_inbE g2) ?_
  refine am_aload_n dX5_through_8 rfl ?_
  refine am_getR (o' := o) dX5_through_9 fl_RX5_72 sh_5 rfl rfl hk_5 ?_
  refine am_iload_n dX5_through_12 rfl ?_
  obtain ⟨g3, h⟩ := am_grd h
  refine am_aaload dX5_through_13 sh_631 rfl rfl hk_631 (am_inbE g3) ?_
  refine am_top (w := .inr (.inr (731, o, x1.toNatClampNeg))) rfl ?_
  refine am_iload_n dX5_through_14 rfl ?_
  obtain ⟨g4, h⟩ := am_grd h
  refine am_laload dX5_through_15 sh_731 hk_731 (am_inbE g4) ?_
  refine am_lmul dX5_through_16 ?_
  obtain rfl := Option.some.inj h
  exact am_lreturn dX5_through_17 rfl hp
theorem c_X5_through {K : am_K} {d : Nat} {M : am_M} {o : Nat} {x1 : Int32} {x2 : Int32} {y : Int64} (h : f_X5_through M o x1 x2 = some y) : am_Met K d m_X5_through [.inr (.inr (5, o, 0)), .inl x1, .inl x2] M (fun q N => q = some (.inr (.inl y)) ∧ N = M) :=
  am_Met_of cb_X5_through (Nat.le_of_ble_eq_true rfl) (w_X5_through h ⟨rfl, rfl⟩)
def f_X5_rows (M : am_M) (o : Nat) : Option (Int32 × am_M) :=
  (f_X5_seeHeaps M o).bind (fun r2 => (f_X5_count r2 o (0 : Int32) (0 : Int32)).bind (fun r4 => some (r4.1.toInt32, r4.2)))
set_option maxHeartbeats 4000000 in
theorem w_X5_rows {K : am_K} {d : Nat} {post : Option am_V → am_M → Prop} {M : am_M} {o : Nat} {y : Int32 × am_M} (h : f_X5_rows M o = some y) (hp : post (some (.inl y.1)) y.2) : am_W K (d + 3) m_X5_rows 0 [(0, .inr (.inr (5, o, 0)))] [] M post := by
  unfold f_X5_rows at h
  refine am_aload_n dX5_rows_0 rfl ?_
  obtain ⟨r2, c1, h⟩ := am_bnd h
  refine am_callVv (as := []) dX5_rows_1 cv_RX5_263 cb_X5_seeHeaps sh_5 rfl hk_5 rfl rfl (Nat.le_of_ble_eq_true rfl) (c_X5_seeHeaps c1) ?_
  refine am_aload_n dX5_rows_4 rfl ?_
  refine am_iconst dX5_rows_5 ic_0 ?_
  refine am_iconst dX5_rows_6 ic_0 ?_
  obtain ⟨r4, c3, h⟩ := am_bnd h
  refine am_callVl (as := [.inl (0 : Int32), .inl (0 : Int32)]) dX5_rows_7 cv_RX5_273 cb_X5_count sh_5 rfl hk_5 rfl rfl (Nat.le_of_ble_eq_true rfl) (c_X5_count c3) ?_
  refine am_l2i dX5_rows_10 ?_
  obtain rfl := Option.some.inj h
  exact am_ireturn dX5_rows_11 rfl rfl hp
theorem c_X5_rows {K : am_K} {d : Nat} {M : am_M} {o : Nat} {y : Int32 × am_M} (h : f_X5_rows M o = some y) : am_Met K (d + 3) m_X5_rows [.inr (.inr (5, o, 0))] M (fun q N => q = some (.inl y.1) ∧ N = y.2) :=
  am_Met_of cb_X5_rows (Nat.le_of_ble_eq_true rfl) (w_X5_rows h ⟨rfl, rfl⟩)
def f_X5_waysOf (M : am_M) (o : Nat) : Option (Int64 × am_M) :=
  (f_X5_seeAll M o).bind (fun r2 => (f_X5_count r2 o (0 : Int32) (0 : Int32)).bind (fun r4 => some (r4.1, r4.2)))
set_option maxHeartbeats 4000000 in
theorem w_X5_waysOf {K : am_K} {d : Nat} {post : Option am_V → am_M → Prop} {M : am_M} {o : Nat} {y : Int64 × am_M} (h : f_X5_waysOf M o = some y) (hp : post (some (.inr (.inl y.1))) y.2) : am_W K (d + 4) m_X5_waysOf 0 [(0, .inr (.inr (5, o, 0)))] [] M post := by
  unfold f_X5_waysOf at h
  refine am_aload_n dX5_waysOf_0 rfl ?_
  obtain ⟨r2, c1, h⟩ := am_bnd h
  refine am_callVv (as := []) dX5_waysOf_1 cv_RX5_276 cb_X5_seeAll sh_5 rfl hk_5 rfl rfl (Nat.le_of_ble_eq_true rfl) (c_X5_seeAll c1) ?_
  refine am_aload_n dX5_waysOf_4 rfl ?_
  refine am_iconst dX5_waysOf_5 ic_0 ?_
  refine am_iconst dX5_waysOf_6 ic_0 ?_
  obtain ⟨r4, c3, h⟩ := am_bnd h
  refine am_callVl (as := [.inl (0 : Int32), .inl (0 : Int32)]) dX5_waysOf_7 cv_RX5_273 cb_X5_count sh_5 rfl hk_5 rfl rfl (Nat.le_of_ble_eq_true rfl) (c_X5_count c3) ?_
  obtain rfl := Option.some.inj h
  exact am_lreturn dX5_waysOf_10 rfl hp
theorem c_X5_waysOf {K : am_K} {d : Nat} {M : am_M} {o : Nat} {y : Int64 × am_M} (h : f_X5_waysOf M o = some y) : am_Met K (d + 4) m_X5_waysOf [.inr (.inr (5, o, 0))] M (fun q N => q = some (.inr (.inl y.1)) ∧ N = y.2) :=
  am_Met_of cb_X5_waysOf (Nat.le_of_ble_eq_true rfl) (w_X5_waysOf h ⟨rfl, rfl⟩)
def f_X5_ways (M : am_M) (o : Nat) : Option (Int32 × am_M) :=
  (f_X5_waysOf M o).bind (fun r2 => some (r2.1.toInt32, r2.2))
set_option maxHeartbeats 4000000 in
theorem w_X5_ways {K : am_K} {d : Nat} {post : Option am_V → am_M → Prop} {M : am_M} {o : Nat} {y : Int32 × am_M} (h : f_X5_ways M o = some y) (hp : post (some (.inl y.1)) y.2) : am_W K (d + 5) m_X5_ways 0 [(0, .inr (.inr (5, o, 0)))] [] M post := by
  unfold f_X5_ways at h
  refine am_aload_n dX5_ways_0 rfl ?_
  obtain ⟨r2, c1, h⟩ := am_bnd h
  refine am_callVl (as := []) dX5_ways_1 cv_RX5_279 cb_X5_waysOf sh_5 rfl hk_5 rfl rfl (Nat.le_of_ble_eq_true rfl) (c_X5_waysOf c1) ?_
  refine am_l2i dX5_ways_4 ?_
  obtain rfl := Option.some.inj h
  exact am_ireturn dX5_ways_5 rfl rfl hp
theorem c_X5_ways {K : am_K} {d : Nat} {M : am_M} {o : Nat} {y : Int32 × am_M} (h : f_X5_ways M o = some y) : am_Met K (d + 5) m_X5_ways [.inr (.inr (5, o, 0))] M (fun q N => q = some (.inl y.1) ∧ N = y.2) :=
  am_Met_of cb_X5_ways (Nat.le_of_ble_eq_true rfl) (w_X5_ways h ⟨rfl, rfl⟩)
def f_X5_read (M : am_M) (o : Nat) (x1 : Int32) : Option (Int32 × am_M) :=
  (f_X5_isThere M o x1).bind (fun r2 => (if r2 = 0 then (f_X5_refuse M o (-5 : Int32)).bind (fun r10 => some (r10.1, r10.2)) else am_let (am_si M 5 o 0 16 ((M.1 5 o 0 16) + (1 : Int32))) (fun M3 => (if x1 = 0 then if am_inb (M.1 5 o 0 16) 24 = true then am_let (am_si M3 617 o 0 (M.1 5 o 0 16).toNatClampNeg (0 : Int32)) (fun M5 => some ((M5.1 5 o 0 16), M5)) else none else if am_inb (M.1 5 o 0 16) 24 = true then am_let (am_si M3 617 o 0 (M.1 5 o 0 16).toNatClampNeg (1 : Int32)) (fun M7 => some ((M7.1 5 o 0 16), M7)) else none))))
set_option maxHeartbeats 4000000 in
theorem w_X5_read {K : am_K} {d : Nat} {post : Option am_V → am_M → Prop} {M : am_M} {o : Nat} {x1 : Int32} {y : Int32 × am_M} (h : f_X5_read M o x1 = some y) (hp : post (some (.inl y.1)) y.2) : am_W K (d + 3) m_X5_read 0 [(0, .inr (.inr (5, o, 0))), (1, .inl x1)] [] M post := by
  unfold f_X5_read at h
  refine am_aload_n dX5_read_0 rfl ?_
  refine am_iload_n dX5_read_1 rfl ?_
  obtain ⟨r2, c1, h⟩ := am_bnd h
  refine am_callVi (as := [.inl x1]) dX5_read_2 cv_RX5_208 cb_X5_isThere sh_5 rfl hk_5 rfl rfl (Nat.le_of_ble_eq_true rfl) (c_X5_isThere c1) ?_
  refine am_if_ne 15 dX5_read_5 rfl (fun b11 => ?_) (fun b11 => ?_)
  · replace h := am_ifF b11 h
    refine am_aload_n dX5_read_15 rfl ?_
    refine am_getR (o' := o) dX5_read_16 fl_RX5_54 sh_5 rfl rfl hk_5 ?_
    refine am_aload_n dX5_read_19 rfl ?_
    refine am_dup dX5_read_20 rfl ?_
    refine am_getI dX5_read_21 fl_RX5_137 sh_5 rfl hk_5 ?_
    refine am_dup_x1 dX5_read_24 rfl rfl ?_
    refine am_iconst dX5_read_25 ic_1 ?_
    refine am_iadd dX5_read_26 ?_
    obtain ⟨M3, eM3, h⟩ := am_letE h
    refine am_putI dX5_read_27 fl_RX5_137 fp_X5_16 sh_5 rfl rfl rfl hk_5 ?_
    refine am_mem eM3 ?_
    refine am_iload_n dX5_read_30 rfl ?_
    refine am_if_eq 38 dX5_read_31 rfl (fun b8 => ?_) (fun b8 => ?_)
    · replace h := am_ifT b8 h
      refine am_iconst dX5_read_38 ic_0 ?_
      obtain ⟨g4, h⟩ := am_grd h
      obtain ⟨M5, eM5, h⟩ := am_letE h
      refine am_iastore dX5_read_39 sh_617 hk_617 (am_inbE g4) ?_
      refine am_mem eM5 ?_
      refine am_aload_n dX5_read_40 rfl ?_
      refine am_getI dX5_read_41 fl_RX5_137 sh_5 rfl hk_5 ?_
      obtain rfl := Option.some.inj h
      exact am_ireturn dX5_read_44 rfl rfl hp
    · replace h := am_ifF b8 h
      refine am_iconst dX5_read_34 ic_1 ?_
      refine am_goto 39 dX5_read_35 rfl ?_
      obtain ⟨g6, h⟩ := am_grd h
      obtain ⟨M7, eM7, h⟩ := am_letE h
      refine am_iastore dX5_read_39 sh_617 hk_617 (am_inbE g6) ?_
      refine am_mem eM7 ?_
      refine am_aload_n dX5_read_40 rfl ?_
      refine am_getI dX5_read_41 fl_RX5_137 sh_5 rfl hk_5 ?_
      obtain rfl := Option.some.inj h
      exact am_ireturn dX5_read_44 rfl rfl hp
  · replace h := am_ifT b11 h
    refine am_aload_n dX5_read_8 rfl ?_
    refine am_bipush dX5_read_9 bp_m5 ?_
    obtain ⟨r10, c9, h⟩ := am_bnd h
    refine am_callVi (as := [.inl (-5 : Int32)]) dX5_read_11 cv_RX5_103 cb_X5_refuse sh_5 rfl hk_5 rfl rfl (Nat.le_of_ble_eq_true rfl) (c_X5_refuse c9) ?_
    obtain rfl := Option.some.inj h
    exact am_ireturn dX5_read_14 rfl rfl hp
theorem c_X5_read {K : am_K} {d : Nat} {M : am_M} {o : Nat} {x1 : Int32} {y : Int32 × am_M} (h : f_X5_read M o x1 = some y) : am_Met K (d + 3) m_X5_read [.inr (.inr (5, o, 0)), .inl x1] M (fun q N => q = some (.inl y.1) ∧ N = y.2) :=
  am_Met_of cb_X5_read (Nat.le_of_ble_eq_true rfl) (w_X5_read h ⟨rfl, rfl⟩)
def f_X5_slip (M : am_M) (o : Nat) (x1 : Int32) : Option (Int32 × am_M) :=
  (f_X5_in M x1.toInt64 (0 : Int64) (((M.1 5 o 0 16) - (1 : Int32)).toInt64)).bind (fun r2 => (if r2 = 0 then (f_X5_refuse M o (-2 : Int32)).bind (fun r4 => some (r4.1, r4.2)) else if am_inb x1 24 = true then some ((M.1 617 o 0 x1.toNatClampNeg), M) else none))
set_option maxHeartbeats 4000000 in
theorem w_X5_slip {K : am_K} {d : Nat} {post : Option am_V → am_M → Prop} {M : am_M} {o : Nat} {x1 : Int32} {y : Int32 × am_M} (h : f_X5_slip M o x1 = some y) (hp : post (some (.inl y.1)) y.2) : am_W K (d + 1) m_X5_slip 0 [(0, .inr (.inr (5, o, 0))), (1, .inl x1)] [] M post := by
  unfold f_X5_slip at h
  refine am_iload_n dX5_slip_0 rfl ?_
  refine am_i2l dX5_slip_1 ?_
  refine am_lconst dX5_slip_2 lc_0 ?_
  refine am_aload_n dX5_slip_3 rfl ?_
  refine am_getI dX5_slip_4 fl_RX5_137 sh_5 rfl hk_5 ?_
  refine am_iconst dX5_slip_7 ic_1 ?_
  refine am_isub dX5_slip_8 ?_
  refine am_i2l dX5_slip_9 ?_
  obtain ⟨r2, c1, h⟩ := am_bnd h
  refine am_callSi (as := [.inr (.inl x1.toInt64), .inr (.inl (0 : Int64)), .inr (.inl (((M.1 5 o 0 16) - (1 : Int32)).toInt64))]) dX5_slip_10 cs_RX5_95 cb_X5_in rfl rfl (Nat.le_of_ble_eq_true rfl) (c_X5_in c1) ?_
  refine am_if_eq 25 dX5_slip_13 rfl (fun b6 => ?_) (fun b6 => ?_)
  · replace h := am_ifT b6 h
    refine am_aload_n dX5_slip_25 rfl ?_
    refine am_bipush dX5_slip_26 bp_m2 ?_
    obtain ⟨r4, c3, h⟩ := am_bnd h
    refine am_callVi (as := [.inl (-2 : Int32)]) dX5_slip_28 cv_RX5_103 cb_X5_refuse sh_5 rfl hk_5 rfl rfl (Nat.le_of_ble_eq_true rfl) (c_X5_refuse c3) ?_
    obtain rfl := Option.some.inj h
    exact am_ireturn dX5_slip_31 rfl rfl hp
  · replace h := am_ifF b6 h
    refine am_aload_n dX5_slip_16 rfl ?_
    refine am_getR (o' := o) dX5_slip_17 fl_RX5_54 sh_5 rfl rfl hk_5 ?_
    refine am_iload_n dX5_slip_20 rfl ?_
    obtain ⟨g5, h⟩ := am_grd h
    refine am_iaload dX5_slip_21 sh_617 hk_617 (am_inbE g5) ?_
    refine am_goto 31 dX5_slip_22 rfl ?_
    obtain rfl := Option.some.inj h
    exact am_ireturn dX5_slip_31 rfl rfl hp
theorem c_X5_slip {K : am_K} {d : Nat} {M : am_M} {o : Nat} {x1 : Int32} {y : Int32 × am_M} (h : f_X5_slip M o x1 = some y) : am_Met K (d + 1) m_X5_slip [.inr (.inr (5, o, 0)), .inl x1] M (fun q N => q = some (.inl y.1) ∧ N = y.2) :=
  am_Met_of cb_X5_slip (Nat.le_of_ble_eq_true rfl) (w_X5_slip h ⟨rfl, rfl⟩)
def f_X5_again (M : am_M) (o : Nat) : Option (Int32 × am_M) :=
  am_let (M.1 5 o 0 16) (fun v1 => am_let (am_si M 5 o 0 16 (0 : Int32)) (fun M2 => some (v1, M2)))
set_option maxHeartbeats 4000000 in
theorem w_X5_again {K : am_K} {d : Nat} {post : Option am_V → am_M → Prop} {M : am_M} {o : Nat} {y : Int32 × am_M} (h : f_X5_again M o = some y) (hp : post (some (.inl y.1)) y.2) : am_W K d m_X5_again 0 [(0, .inr (.inr (5, o, 0)))] [] M post := by
  unfold f_X5_again at h
  refine am_aload_n dX5_again_0 rfl ?_
  refine am_getI dX5_again_1 fl_RX5_137 sh_5 rfl hk_5 ?_
  obtain ⟨v1, ev1, h⟩ := am_letE h
  refine am_topI ev1 ?_
  refine am_istore_n (ls' := [(0, .inr (.inr (5, o, 0))), (1, .inl v1)]) dX5_again_4 (Nat.le_of_ble_eq_true rfl) rfl ?_
  refine am_aload_n dX5_again_5 rfl ?_
  refine am_iconst dX5_again_6 ic_0 ?_
  obtain ⟨M2, eM2, h⟩ := am_letE h
  refine am_putI dX5_again_7 fl_RX5_137 fp_X5_16 sh_5 rfl rfl rfl hk_5 ?_
  refine am_mem eM2 ?_
  refine am_iload_n dX5_again_10 rfl ?_
  obtain rfl := Option.some.inj h
  exact am_ireturn dX5_again_11 rfl rfl hp
theorem c_X5_again {K : am_K} {d : Nat} {M : am_M} {o : Nat} {y : Int32 × am_M} (h : f_X5_again M o = some y) : am_Met K d m_X5_again [.inr (.inr (5, o, 0))] M (fun q N => q = some (.inl y.1) ∧ N = y.2) :=
  am_Met_of cb_X5_again (Nat.le_of_ble_eq_true rfl) (w_X5_again h ⟨rfl, rfl⟩)
def f_X5_lead (M : am_M) (o : Nat) : Option (Int32) :=
  (f_X5_readA M o (M.1 5 o 0 16)).bind (fun r2 => some (((2 : Int32) * r2) - (M.1 5 o 0 16)))
set_option maxHeartbeats 4000000 in
theorem w_X5_lead {K : am_K} {d : Nat} {post : Option am_V → am_M → Prop} {M : am_M} {o : Nat} {y : Int32} (h : f_X5_lead M o = some y) (hp : post (some (.inl y)) M) : am_W K (d + 1) m_X5_lead 0 [(0, .inr (.inr (5, o, 0)))] [] M post := by
  unfold f_X5_lead at h
  refine am_iconst dX5_lead_0 ic_2 ?_
  refine am_aload_n dX5_lead_1 rfl ?_
  refine am_aload_n dX5_lead_2 rfl ?_
  refine am_getI dX5_lead_3 fl_RX5_137 sh_5 rfl hk_5 ?_
  obtain ⟨r2, c1, h⟩ := am_bnd h
  refine am_callVi (as := [.inl (M.1 5 o 0 16)]) dX5_lead_6 cv_RX5_257 cb_X5_readA sh_5 rfl hk_5 rfl rfl (Nat.le_of_ble_eq_true rfl) (c_X5_readA c1) ?_
  refine am_imul dX5_lead_9 ?_
  refine am_aload_n dX5_lead_10 rfl ?_
  refine am_getI dX5_lead_11 fl_RX5_137 sh_5 rfl hk_5 ?_
  refine am_isub dX5_lead_14 ?_
  obtain rfl := Option.some.inj h
  exact am_ireturn dX5_lead_15 rfl rfl hp
theorem c_X5_lead {K : am_K} {d : Nat} {M : am_M} {o : Nat} {y : Int32} (h : f_X5_lead M o = some y) : am_Met K (d + 1) m_X5_lead [.inr (.inr (5, o, 0))] M (fun q N => q = some (.inl y) ∧ N = M) :=
  am_Met_of cb_X5_lead (Nat.le_of_ble_eq_true rfl) (w_X5_lead h ⟨rfl, rfl⟩)
def f_X5_countFits (M : am_M) (o : Nat) (x1 : Int32) (x2 : Int32) : Option (Int64 × am_M) :=
  (f_X5_seeAll M o).bind (fun r2 => (f_X5_count r2 o x1 x2).bind (fun r4 => some (r4.1, r4.2)))
set_option maxHeartbeats 4000000 in
theorem w_X5_countFits {K : am_K} {d : Nat} {post : Option am_V → am_M → Prop} {M : am_M} {o : Nat} {x1 : Int32} {x2 : Int32} {y : Int64 × am_M} (h : f_X5_countFits M o x1 x2 = some y) (hp : post (some (.inr (.inl y.1))) y.2) : am_W K (d + 4) m_X5_countFits 0 [(0, .inr (.inr (5, o, 0))), (1, .inl x1), (2, .inl x2)] [] M post := by
  unfold f_X5_countFits at h
  refine am_aload_n dX5_countFits_0 rfl ?_
  obtain ⟨r2, c1, h⟩ := am_bnd h
  refine am_callVv (as := []) dX5_countFits_1 cv_RX5_276 cb_X5_seeAll sh_5 rfl hk_5 rfl rfl (Nat.le_of_ble_eq_true rfl) (c_X5_seeAll c1) ?_
  refine am_aload_n dX5_countFits_4 rfl ?_
  refine am_iload_n dX5_countFits_5 rfl ?_
  refine am_iload_n dX5_countFits_6 rfl ?_
  obtain ⟨r4, c3, h⟩ := am_bnd h
  refine am_callVl (as := [.inl x1, .inl x2]) dX5_countFits_7 cv_RX5_273 cb_X5_count sh_5 rfl hk_5 rfl rfl (Nat.le_of_ble_eq_true rfl) (c_X5_count c3) ?_
  obtain rfl := Option.some.inj h
  exact am_lreturn dX5_countFits_10 rfl hp
theorem c_X5_countFits {K : am_K} {d : Nat} {M : am_M} {o : Nat} {x1 : Int32} {x2 : Int32} {y : Int64 × am_M} (h : f_X5_countFits M o x1 x2 = some y) : am_Met K (d + 4) m_X5_countFits [.inr (.inr (5, o, 0)), .inl x1, .inl x2] M (fun q N => q = some (.inr (.inl y.1)) ∧ N = y.2) :=
  am_Met_of cb_X5_countFits (Nat.le_of_ble_eq_true rfl) (w_X5_countFits h ⟨rfl, rfl⟩)
def f_X5_ahead (M : am_M) (o : Nat) (x1 : Int32) : Option (Int32 × am_M) :=
  (f_X5_in M x1.toInt64 (0 : Int64) (9 : Int64)).bind (fun r2 => (if r2 = 0 then (f_X5_refuse M o (-2 : Int32)).bind (fun r4 => some (r4.1, r4.2)) else (f_X5_countFits M o (1 : Int32) x1).bind (fun r6 => some (r6.1.toInt32, r6.2))))
set_option maxHeartbeats 4000000 in
theorem w_X5_ahead {K : am_K} {d : Nat} {post : Option am_V → am_M → Prop} {M : am_M} {o : Nat} {x1 : Int32} {y : Int32 × am_M} (h : f_X5_ahead M o x1 = some y) (hp : post (some (.inl y.1)) y.2) : am_W K (d + 5) m_X5_ahead 0 [(0, .inr (.inr (5, o, 0))), (1, .inl x1)] [] M post := by
  unfold f_X5_ahead at h
  refine am_iload_n dX5_ahead_0 rfl ?_
  refine am_i2l dX5_ahead_1 ?_
  refine am_lconst dX5_ahead_2 lc_0 ?_
  refine am_ldc2 dX5_ahead_3 kc_RX5_120 ?_
  obtain ⟨r2, c1, h⟩ := am_bnd h
  refine am_callSi (as := [.inr (.inl x1.toInt64), .inr (.inl (0 : Int64)), .inr (.inl (9 : Int64))]) dX5_ahead_6 cs_RX5_95 cb_X5_in rfl rfl (Nat.le_of_ble_eq_true rfl) (c_X5_in c1) ?_
  refine am_if_eq 22 dX5_ahead_9 rfl (fun b7 => ?_) (fun b7 => ?_)
  · replace h := am_ifT b7 h
    refine am_aload_n dX5_ahead_22 rfl ?_
    refine am_bipush dX5_ahead_23 bp_m2 ?_
    obtain ⟨r4, c3, h⟩ := am_bnd h
    refine am_callVi (as := [.inl (-2 : Int32)]) dX5_ahead_25 cv_RX5_103 cb_X5_refuse sh_5 rfl hk_5 rfl rfl (Nat.le_of_ble_eq_true rfl) (c_X5_refuse c3) ?_
    obtain rfl := Option.some.inj h
    exact am_ireturn dX5_ahead_28 rfl rfl hp
  · replace h := am_ifF b7 h
    refine am_aload_n dX5_ahead_12 rfl ?_
    refine am_iconst dX5_ahead_13 ic_1 ?_
    refine am_iload_n dX5_ahead_14 rfl ?_
    obtain ⟨r6, c5, h⟩ := am_bnd h
    refine am_callVl (as := [.inl (1 : Int32), .inl x1]) dX5_ahead_15 cv_RX5_293 cb_X5_countFits sh_5 rfl hk_5 rfl rfl (Nat.le_of_ble_eq_true rfl) (c_X5_countFits c5) ?_
    refine am_l2i dX5_ahead_18 ?_
    refine am_goto 28 dX5_ahead_19 rfl ?_
    obtain rfl := Option.some.inj h
    exact am_ireturn dX5_ahead_28 rfl rfl hp
theorem c_X5_ahead {K : am_K} {d : Nat} {M : am_M} {o : Nat} {x1 : Int32} {y : Int32 × am_M} (h : f_X5_ahead M o x1 = some y) : am_Met K (d + 5) m_X5_ahead [.inr (.inr (5, o, 0)), .inl x1] M (fun q N => q = some (.inl y.1) ∧ N = y.2) :=
  am_Met_of cb_X5_ahead (Nat.le_of_ble_eq_true rfl) (w_X5_ahead h ⟨rfl, rfl⟩)
def f_X5_never (M : am_M) (o : Nat) : Option (Int32 × am_M) :=
  (f_X5_countFits M o (2 : Int32) (0 : Int32)).bind (fun r2 => some (r2.1.toInt32, r2.2))
set_option maxHeartbeats 4000000 in
theorem w_X5_never {K : am_K} {d : Nat} {post : Option am_V → am_M → Prop} {M : am_M} {o : Nat} {y : Int32 × am_M} (h : f_X5_never M o = some y) (hp : post (some (.inl y.1)) y.2) : am_W K (d + 5) m_X5_never 0 [(0, .inr (.inr (5, o, 0)))] [] M post := by
  unfold f_X5_never at h
  refine am_aload_n dX5_never_0 rfl ?_
  refine am_iconst dX5_never_1 ic_2 ?_
  refine am_iconst dX5_never_2 ic_0 ?_
  obtain ⟨r2, c1, h⟩ := am_bnd h
  refine am_callVl (as := [.inl (2 : Int32), .inl (0 : Int32)]) dX5_never_3 cv_RX5_293 cb_X5_countFits sh_5 rfl hk_5 rfl rfl (Nat.le_of_ble_eq_true rfl) (c_X5_countFits c1) ?_
  refine am_l2i dX5_never_6 ?_
  obtain rfl := Option.some.inj h
  exact am_ireturn dX5_never_7 rfl rfl hp
theorem c_X5_never {K : am_K} {d : Nat} {M : am_M} {o : Nat} {y : Int32 × am_M} (h : f_X5_never M o = some y) : am_Met K (d + 5) m_X5_never [.inr (.inr (5, o, 0))] M (fun q N => q = some (.inl y.1) ∧ N = y.2) :=
  am_Met_of cb_X5_never (Nat.le_of_ble_eq_true rfl) (w_X5_never h ⟨rfl, rfl⟩)
def l_X5_countMoments_10 (o0a : Nat) (a1 : Int32) (a2 : Int32) : Nat → Int32 → am_M → Option (am_M)
  | 0, _, _ => none
  | n + 1, a3, M => (if (24 : Int32) < a3 then some M else if am_inb a2 25 = true then if am_inb a3 25 = true then am_let (am_sl M 732 o0a a2.toNatClampNeg a3.toNatClampNeg (0 : Int64)) (fun M3 => am_let (a3 + (1 : Int32)) (fun v4 => l_X5_countMoments_10 o0a a1 a2 n v4 M3)) else none else none)
set_option maxHeartbeats 4000000 in
theorem wl_X5_countMoments_10 {K : am_K} {d : Nat} {post : Option am_V → am_M → Prop} {o0a : Nat} {a1 : Int32} {a2 : Int32} : ∀ (n : Nat) (a3 : Int32) (M : am_M) (x : am_M), l_X5_countMoments_10 o0a a1 a2 n a3 M = some x → am_W K d m_X5_countMoments 31 [(0, .inr (.inr (5, o0a, 0))), (1, .inl a1), (2, .inl a2)] [] x post → am_W K d m_X5_countMoments 10 [(0, .inr (.inr (5, o0a, 0))), (1, .inl a1), (2, .inl a2), (3, .inl a3)] [] M post := by
  intro n
  induction n with
  | zero => intro a3 M x h KX; cases h
  | succ n ih =>
    intro a3 M x h KX
    rw [l_X5_countMoments_10] at h
    refine am_iload_n dX5_countMoments_10 rfl ?_
    refine am_bipush dX5_countMoments_11 bp_24 ?_
    refine am_icmp_gt 31 dX5_countMoments_13 rfl (fun b5 => ?_) (fun b5 => ?_)
    · replace h := am_ifT b5 h
      obtain rfl := Option.some.inj h
      exact am_drop [0, 1, 2] rfl KX
    · replace h := am_ifF b5 h
      refine am_aload_n dX5_countMoments_16 rfl ?_
      refine am_getR (o' := o0a) dX5_countMoments_17 fl_RX5_75 sh_5 rfl rfl hk_5 ?_
      refine am_iload_n dX5_countMoments_20 rfl ?_
      obtain ⟨g1, h⟩ := am_grd h
      refine am_aaload dX5_countMoments_21 sh_632 rfl rfl hk_632 (am_inbE g1) ?_
      refine am_top (w := .inr (.inr (732, o0a, a2.toNatClampNeg))) rfl ?_
      refine am_iload_n dX5_countMoments_22 rfl ?_
      refine am_lconst dX5_countMoments_23 lc_0 ?_
      obtain ⟨g2, h⟩ := am_grd h
      obtain ⟨M3, eM3, h⟩ := am_letE h
      refine am_lastore dX5_countMoments_24 sh_732 hk_732 (am_inbE g2) ?_
      refine am_mem eM3 ?_
      obtain ⟨v4, ev4, h⟩ := am_letE h
      refine am_iinc (ls' := [(0, .inr (.inr (5, o0a, 0))), (1, .inl a1), (2, .inl a2), (3, .inl v4)]) dX5_countMoments_25 rfl ((congrArg (fun z => a3 + z) ic_1).trans ev4.symm) (Nat.le_of_ble_eq_true rfl) rfl ?_
      refine am_goto 10 dX5_countMoments_28 rfl ?_
      exact am_drop [0, 1, 2, 3] rfl (ih _ _ _ h KX)
def l_X5_countMoments_2 (o0a : Nat) (a1 : Int32) : Nat → Int32 → am_M → Option (am_M)
  | 0, _, _ => none
  | n + 1, a2, M => (if (24 : Int32) < a2 then some M else (l_X5_countMoments_10 o0a a1 a2 1000 (0 : Int32) M).bind (fun z6 => am_let (a2 + (1 : Int32)) (fun v9 => l_X5_countMoments_2 o0a a1 n v9 z6)))
set_option maxHeartbeats 4000000 in
theorem wl_X5_countMoments_2 {K : am_K} {d : Nat} {post : Option am_V → am_M → Prop} {o0a : Nat} {a1 : Int32} : ∀ (n : Nat) (a2 : Int32) (M : am_M) (x : am_M), l_X5_countMoments_2 o0a a1 n a2 M = some x → am_W K d m_X5_countMoments 37 [(0, .inr (.inr (5, o0a, 0))), (1, .inl a1)] [] x post → am_W K d m_X5_countMoments 2 [(0, .inr (.inr (5, o0a, 0))), (1, .inl a1), (2, .inl a2)] [] M post := by
  intro n
  induction n with
  | zero => intro a2 M x h KX; cases h
  | succ n ih =>
    intro a2 M x h KX
    rw [l_X5_countMoments_2] at h
    refine am_iload_n dX5_countMoments_2 rfl ?_
    refine am_bipush dX5_countMoments_3 bp_24 ?_
    refine am_icmp_gt 37 dX5_countMoments_5 rfl (fun b10 => ?_) (fun b10 => ?_)
    · replace h := am_ifT b10 h
      obtain rfl := Option.some.inj h
      exact am_drop [0, 1] rfl KX
    · replace h := am_ifF b10 h
      refine am_iconst dX5_countMoments_8 ic_0 ?_
      refine am_istore_n (ls' := [(0, .inr (.inr (5, o0a, 0))), (1, .inl a1), (2, .inl a2), (3, .inl (0 : Int32))]) dX5_countMoments_9 (Nat.le_of_ble_eq_true rfl) rfl ?_
      obtain ⟨z6, h7, h⟩ := am_bnd h
      have KK8 : am_W K d m_X5_countMoments 31 [(0, .inr (.inr (5, o0a, 0))), (1, .inl a1), (2, .inl a2)] [] z6 post := by
        obtain ⟨v9, ev9, h⟩ := am_letE h
        refine am_iinc (ls' := [(0, .inr (.inr (5, o0a, 0))), (1, .inl a1), (2, .inl v9)]) dX5_countMoments_31 rfl ((congrArg (fun z => a2 + z) ic_1).trans ev9.symm) (Nat.le_of_ble_eq_true rfl) rfl ?_
        refine am_goto 2 dX5_countMoments_34 rfl ?_
        exact am_drop [0, 1, 2] rfl (ih _ _ _ h KX)
      exact am_drop [0, 1, 2, 3] rfl (wl_X5_countMoments_10 _ _ _ _ h7 KK8)
def l_X5_countMoments_112 (o0a : Nat) (a1 : Int32) (a2 : Int32) (a3 : Int32) (a5 : Int32) : Nat → Int32 → am_M → Option (am_M)
  | 0, _, _ => none
  | n + 1, a6, M => (if a2 < a6 then some M else ((if a5 ≤ a6 then ((if a2 ≤ a3 then some (0 : Int64) else if am_inb a3 25 = true then if am_inb (a6 - a5) 25 = true then some (M.2 732 o0a a3.toNatClampNeg (a6 - a5).toNatClampNeg) else none else none) : Option (Int64)).bind (fun z29 => ((if a3 ≤ 0 then some (0 : Int64) else if am_inb (a3 - (1 : Int32)) 25 = true then if am_inb (a6 - a5) 25 = true then some (M.2 732 o0a (a3 - (1 : Int32)).toNatClampNeg (a6 - a5).toNatClampNeg) else none else none) : Option (Int64)).bind (fun z35 => some (z29 + z35))) else some (0 : Int64)) : Option (Int64)).bind (fun z26 => if am_inb a3 25 = true then if am_inb a2 25 = true then if am_inb a3 25 = true then ((if (M.1 728 o0a a2.toNatClampNeg a3.toNatClampNeg) = 0 then some (0 : Int64) else some z26) : Option (Int64)).bind (fun z45 => if am_inb a6 25 = true then am_let (am_sl M 733 o0a a3.toNatClampNeg a6.toNatClampNeg z45) (fun M50 => am_let (a6 + (1 : Int32)) (fun v51 => l_X5_countMoments_112 o0a a1 a2 a3 a5 n v51 M50)) else none) else none else none else none))
set_option maxHeartbeats 4000000 in
theorem wl_X5_countMoments_112 {K : am_K} {d : Nat} {post : Option am_V → am_M → Prop} {o0a : Nat} {a1 : Int32} {a2 : Int32} {a3 : Int32} {a5 : Int32} : ∀ (n : Nat) (a6 : Int32) (M : am_M) (x : am_M), l_X5_countMoments_112 o0a a1 a2 a3 a5 n a6 M = some x → am_W K d m_X5_countMoments 207 [(0, .inr (.inr (5, o0a, 0))), (1, .inl a1), (2, .inl a2), (3, .inl a3)] [] x post → am_W K d m_X5_countMoments 112 [(0, .inr (.inr (5, o0a, 0))), (1, .inl a1), (2, .inl a2), (3, .inl a3), (5, .inl a5), (6, .inl a6)] [] M post := by
  intro n
  induction n with
  | zero => intro a6 M x h KX; cases h
  | succ n ih =>
    intro a6 M x h KX
    rw [l_X5_countMoments_112] at h
    refine am_iload dX5_countMoments_112 rfl ?_
    refine am_iload_n dX5_countMoments_114 rfl ?_
    refine am_icmp_gt 207 dX5_countMoments_115 rfl (fun b52 => ?_) (fun b52 => ?_)
    · replace h := am_ifT b52 h
      obtain rfl := Option.some.inj h
      exact am_drop [0, 1, 2, 3] rfl KX
    · replace h := am_ifF b52 h
      refine am_iload dX5_countMoments_118 rfl ?_
      refine am_iload dX5_countMoments_120 rfl ?_
      obtain ⟨z26, h27, h⟩ := am_bnd h
      have KK28 : am_W K d m_X5_countMoments 173 [(0, .inr (.inr (5, o0a, 0))), (1, .inl a1), (2, .inl a2), (3, .inl a3), (5, .inl a5), (6, .inl a6)] [.inr (.inl z26)] M post := by
        refine am_lstore (ls' := [(0, .inr (.inr (5, o0a, 0))), (1, .inl a1), (2, .inl a2), (3, .inl a3), (5, .inl a5), (6, .inl a6), (7, .inr (.inl z26))]) dX5_countMoments_173 (Nat.le_of_ble_eq_true rfl) rfl ?_
        refine am_aload_n dX5_countMoments_175 rfl ?_
        refine am_getR (o' := o0a) dX5_countMoments_176 fl_RX5_78 sh_5 rfl rfl hk_5 ?_
        refine am_iload_n dX5_countMoments_179 rfl ?_
        obtain ⟨g42, h⟩ := am_grd h
        refine am_aaload dX5_countMoments_180 sh_633 rfl rfl hk_633 (am_inbE g42) ?_
        refine am_top (w := .inr (.inr (733, o0a, a3.toNatClampNeg))) rfl ?_
        refine am_iload dX5_countMoments_181 rfl ?_
        refine am_aload_n dX5_countMoments_183 rfl ?_
        refine am_getR (o' := o0a) dX5_countMoments_184 fl_RX5_66 sh_5 rfl rfl hk_5 ?_
        refine am_iload_n dX5_countMoments_187 rfl ?_
        obtain ⟨g43, h⟩ := am_grd h
        refine am_aaload dX5_countMoments_188 sh_628 rfl rfl hk_628 (am_inbE g43) ?_
        refine am_top (w := .inr (.inr (728, o0a, a2.toNatClampNeg))) rfl ?_
        refine am_iload_n dX5_countMoments_189 rfl ?_
        obtain ⟨g44, h⟩ := am_grd h
        refine am_zaload dX5_countMoments_190 sh_728 hk_728 (am_inbE g44) ?_
        obtain ⟨z45, h46, h⟩ := am_bnd h
        have KK47 : am_W K d m_X5_countMoments 200 [(0, .inr (.inr (5, o0a, 0))), (1, .inl a1), (2, .inl a2), (3, .inl a3), (5, .inl a5), (6, .inl a6)] [.inr (.inl z45), .inl a6, .inr (.inr (733, o0a, a3.toNatClampNeg))] M post := by
          obtain ⟨g49, h⟩ := am_grd h
          obtain ⟨M50, eM50, h⟩ := am_letE h
          refine am_lastore dX5_countMoments_200 sh_733 hk_733 (am_inbE g49) ?_
          refine am_mem eM50 ?_
          obtain ⟨v51, ev51, h⟩ := am_letE h
          refine am_iinc (ls' := [(0, .inr (.inr (5, o0a, 0))), (1, .inl a1), (2, .inl a2), (3, .inl a3), (5, .inl a5), (6, .inl v51)]) dX5_countMoments_201 rfl ((congrArg (fun z => a6 + z) ic_1).trans ev51.symm) (Nat.le_of_ble_eq_true rfl) rfl ?_
          refine am_goto 112 dX5_countMoments_204 rfl ?_
          exact am_drop [0, 1, 2, 3, 5, 6] rfl (ih _ _ _ h KX)
        clear h
        refine am_if_eq 199 dX5_countMoments_191 rfl (fun b48 => ?_) (fun b48 => ?_)
        · replace h46 := am_ifT b48 h46
          refine am_lconst dX5_countMoments_199 lc_0 ?_
          obtain rfl := Option.some.inj h46
          exact am_drop [0, 1, 2, 3, 5, 6] rfl KK47
        · replace h46 := am_ifF b48 h46
          refine am_lload dX5_countMoments_194 rfl ?_
          refine am_goto 200 dX5_countMoments_196 rfl ?_
          obtain rfl := Option.some.inj h46
          exact am_drop [0, 1, 2, 3, 5, 6] rfl KK47
      clear h
      refine am_icmp_ge 129 dX5_countMoments_122 rfl (fun b41 => ?_) (fun b41 => ?_)
      · replace h27 := am_ifT b41 h27
        refine am_iload_n dX5_countMoments_129 rfl ?_
        refine am_iload_n dX5_countMoments_130 rfl ?_
        obtain ⟨z29, h30, h27⟩ := am_bnd h27
        have KK31 : am_W K d m_X5_countMoments 150 [(0, .inr (.inr (5, o0a, 0))), (1, .inl a1), (2, .inl a2), (3, .inl a3), (5, .inl a5), (6, .inl a6)] [.inr (.inl z29)] M post := by
          refine am_iload_n dX5_countMoments_150 rfl ?_
          obtain ⟨z35, h36, h27⟩ := am_bnd h27
          have KK37 : am_W K d m_X5_countMoments 172 [(0, .inr (.inr (5, o0a, 0))), (1, .inl a1), (2, .inl a2), (3, .inl a3), (5, .inl a5), (6, .inl a6)] [.inr (.inl z35), .inr (.inl z29)] M post := by
            refine am_ladd dX5_countMoments_172 ?_
            obtain rfl := Option.some.inj h27
            exact am_drop [0, 1, 2, 3, 5, 6] rfl KK28
          clear h27
          refine am_if_le 171 dX5_countMoments_151 rfl (fun b40 => ?_) (fun b40 => ?_)
          · replace h36 := am_ifT b40 h36
            refine am_lconst dX5_countMoments_171 lc_0 ?_
            obtain rfl := Option.some.inj h36
            exact am_drop [0, 1, 2, 3, 5, 6] rfl KK37
          · replace h36 := am_ifF b40 h36
            refine am_aload_n dX5_countMoments_154 rfl ?_
            refine am_getR (o' := o0a) dX5_countMoments_155 fl_RX5_75 sh_5 rfl rfl hk_5 ?_
            refine am_iload_n dX5_countMoments_158 rfl ?_
            refine am_iconst dX5_countMoments_159 ic_1 ?_
            refine am_isub dX5_countMoments_160 ?_
            obtain ⟨g38, h36⟩ := am_grd h36
            refine am_aaload dX5_countMoments_161 sh_632 rfl rfl hk_632 (am_inbE g38) ?_
            refine am_top (w := .inr (.inr (732, o0a, (a3 - (1 : Int32)).toNatClampNeg))) rfl ?_
            refine am_iload dX5_countMoments_162 rfl ?_
            refine am_iload dX5_countMoments_164 rfl ?_
            refine am_isub dX5_countMoments_166 ?_
            obtain ⟨g39, h36⟩ := am_grd h36
            refine am_laload dX5_countMoments_167 sh_732 hk_732 (am_inbE g39) ?_
            refine am_goto 172 dX5_countMoments_168 rfl ?_
            obtain rfl := Option.some.inj h36
            exact am_drop [0, 1, 2, 3, 5, 6] rfl KK37
        clear h27
        refine am_icmp_ge 149 dX5_countMoments_131 rfl (fun b34 => ?_) (fun b34 => ?_)
        · replace h30 := am_ifT b34 h30
          refine am_lconst dX5_countMoments_149 lc_0 ?_
          obtain rfl := Option.some.inj h30
          exact am_drop [0, 1, 2, 3, 5, 6] rfl KK31
        · replace h30 := am_ifF b34 h30
          refine am_aload_n dX5_countMoments_134 rfl ?_
          refine am_getR (o' := o0a) dX5_countMoments_135 fl_RX5_75 sh_5 rfl rfl hk_5 ?_
          refine am_iload_n dX5_countMoments_138 rfl ?_
          obtain ⟨g32, h30⟩ := am_grd h30
          refine am_aaload dX5_countMoments_139 sh_632 rfl rfl hk_632 (am_inbE g32) ?_
          refine am_top (w := .inr (.inr (732, o0a, a3.toNatClampNeg))) rfl ?_
          refine am_iload dX5_countMoments_140 rfl ?_
          refine am_iload dX5_countMoments_142 rfl ?_
          refine am_isub dX5_countMoments_144 ?_
          obtain ⟨g33, h30⟩ := am_grd h30
          refine am_laload dX5_countMoments_145 sh_732 hk_732 (am_inbE g33) ?_
          refine am_goto 150 dX5_countMoments_146 rfl ?_
          obtain rfl := Option.some.inj h30
          exact am_drop [0, 1, 2, 3, 5, 6] rfl KK31
      · replace h27 := am_ifF b41 h27
        refine am_lconst dX5_countMoments_125 lc_0 ?_
        refine am_goto 173 dX5_countMoments_126 rfl ?_
        obtain rfl := Option.some.inj h27
        exact am_drop [0, 1, 2, 3, 5, 6] rfl KK28
def l_X5_countMoments_73 (o0a : Nat) (a1 : Int32) (a2 : Int32) : Nat → Int32 → am_M → Option (am_M)
  | 0, _, _ => none
  | n + 1, a3, M => (if a2 < a3 then some M else am_let (((2 : Int32) * a3) - a2) (fun v19 => ((if a1 = 0 then (if v19 ≤ 0 then some (0 : Int32) else some (1 : Int32)) else (if v19 = 0 then some (1 : Int32) else some (0 : Int32))) : Option (Int32)).bind (fun z20 => (l_X5_countMoments_112 o0a a1 a2 a3 z20 1000 (0 : Int32) M).bind (fun z53 => am_let (a3 + (1 : Int32)) (fun v56 => l_X5_countMoments_73 o0a a1 a2 n v56 z53)))))
set_option maxHeartbeats 4000000 in
theorem wl_X5_countMoments_73 {K : am_K} {d : Nat} {post : Option am_V → am_M → Prop} {o0a : Nat} {a1 : Int32} {a2 : Int32} : ∀ (n : Nat) (a3 : Int32) (M : am_M) (x : am_M), l_X5_countMoments_73 o0a a1 a2 n a3 M = some x → am_W K d m_X5_countMoments 213 [(0, .inr (.inr (5, o0a, 0))), (1, .inl a1), (2, .inl a2)] [] x post → am_W K d m_X5_countMoments 73 [(0, .inr (.inr (5, o0a, 0))), (1, .inl a1), (2, .inl a2), (3, .inl a3)] [] M post := by
  intro n
  induction n with
  | zero => intro a3 M x h KX; cases h
  | succ n ih =>
    intro a3 M x h KX
    rw [l_X5_countMoments_73] at h
    refine am_iload_n dX5_countMoments_73 rfl ?_
    refine am_iload_n dX5_countMoments_74 rfl ?_
    refine am_icmp_gt 213 dX5_countMoments_75 rfl (fun b57 => ?_) (fun b57 => ?_)
    · replace h := am_ifT b57 h
      obtain rfl := Option.some.inj h
      exact am_drop [0, 1, 2] rfl KX
    · replace h := am_ifF b57 h
      refine am_iconst dX5_countMoments_78 ic_2 ?_
      refine am_iload_n dX5_countMoments_79 rfl ?_
      refine am_imul dX5_countMoments_80 ?_
      refine am_iload_n dX5_countMoments_81 rfl ?_
      refine am_isub dX5_countMoments_82 ?_
      obtain ⟨v19, ev19, h⟩ := am_letE h
      refine am_topI ev19 ?_
      refine am_istore (ls' := [(0, .inr (.inr (5, o0a, 0))), (1, .inl a1), (2, .inl a2), (3, .inl a3), (4, .inl v19)]) dX5_countMoments_83 (Nat.le_of_ble_eq_true rfl) rfl ?_
      refine am_iload_n dX5_countMoments_85 rfl ?_
      obtain ⟨z20, h21, h⟩ := am_bnd h
      have KK22 : am_W K d m_X5_countMoments 107 [(0, .inr (.inr (5, o0a, 0))), (1, .inl a1), (2, .inl a2), (3, .inl a3)] [.inl z20] M post := by
        refine am_istore (ls' := [(0, .inr (.inr (5, o0a, 0))), (1, .inl a1), (2, .inl a2), (3, .inl a3), (5, .inl z20)]) dX5_countMoments_107 (Nat.le_of_ble_eq_true rfl) rfl ?_
        refine am_iconst dX5_countMoments_109 ic_0 ?_
        refine am_istore (ls' := [(0, .inr (.inr (5, o0a, 0))), (1, .inl a1), (2, .inl a2), (3, .inl a3), (5, .inl z20), (6, .inl (0 : Int32))]) dX5_countMoments_110 (Nat.le_of_ble_eq_true rfl) rfl ?_
        obtain ⟨z53, h54, h⟩ := am_bnd h
        have KK55 : am_W K d m_X5_countMoments 207 [(0, .inr (.inr (5, o0a, 0))), (1, .inl a1), (2, .inl a2), (3, .inl a3)] [] z53 post := by
          obtain ⟨v56, ev56, h⟩ := am_letE h
          refine am_iinc (ls' := [(0, .inr (.inr (5, o0a, 0))), (1, .inl a1), (2, .inl a2), (3, .inl v56)]) dX5_countMoments_207 rfl ((congrArg (fun z => a3 + z) ic_1).trans ev56.symm) (Nat.le_of_ble_eq_true rfl) rfl ?_
          refine am_goto 73 dX5_countMoments_210 rfl ?_
          exact am_drop [0, 1, 2, 3] rfl (ih _ _ _ h KX)
        exact am_drop [0, 1, 2, 3, 5, 6] rfl (wl_X5_countMoments_112 _ _ _ _ h54 KK55)
      clear h
      refine am_if_eq 97 dX5_countMoments_86 rfl (fun b25 => ?_) (fun b25 => ?_)
      · replace h21 := am_ifT b25 h21
        refine am_iload dX5_countMoments_97 rfl ?_
        refine am_if_le 106 dX5_countMoments_99 rfl (fun b23 => ?_) (fun b23 => ?_)
        · replace h21 := am_ifT b23 h21
          refine am_iconst dX5_countMoments_106 ic_0 ?_
          obtain rfl := Option.some.inj h21
          exact am_drop [0, 1, 2, 3] rfl KK22
        · replace h21 := am_ifF b23 h21
          refine am_iconst dX5_countMoments_102 ic_1 ?_
          refine am_goto 107 dX5_countMoments_103 rfl ?_
          obtain rfl := Option.some.inj h21
          exact am_drop [0, 1, 2, 3] rfl KK22
      · replace h21 := am_ifF b25 h21
        refine am_iload dX5_countMoments_89 rfl ?_
        refine am_if_ne 106 dX5_countMoments_91 rfl (fun b24 => ?_) (fun b24 => ?_)
        · replace h21 := am_ifF b24 h21
          refine am_iconst dX5_countMoments_106 ic_0 ?_
          obtain rfl := Option.some.inj h21
          exact am_drop [0, 1, 2, 3] rfl KK22
        · replace h21 := am_ifT b24 h21
          refine am_goto 102 dX5_countMoments_94 rfl ?_
          refine am_iconst dX5_countMoments_102 ic_1 ?_
          refine am_goto 107 dX5_countMoments_103 rfl ?_
          obtain rfl := Option.some.inj h21
          exact am_drop [0, 1, 2, 3] rfl KK22
def l_X5_countMoments_223 (o0a : Nat) (a1 : Int32) (a2 : Int32) (a3 : Int32) : Nat → Int32 → am_M → Option (am_M)
  | 0, _, _ => none
  | n + 1, a4, M => (if a2 < a4 then some M else if am_inb a3 25 = true then if am_inb a3 25 = true then if am_inb a4 25 = true then if am_inb a4 25 = true then am_let (am_sl M 732 o0a a3.toNatClampNeg a4.toNatClampNeg (M.2 733 o0a a3.toNatClampNeg a4.toNatClampNeg)) (fun M65 => am_let (a4 + (1 : Int32)) (fun v66 => l_X5_countMoments_223 o0a a1 a2 a3 n v66 M65)) else none else none else none else none)
set_option maxHeartbeats 4000000 in
theorem wl_X5_countMoments_223 {K : am_K} {d : Nat} {post : Option am_V → am_M → Prop} {o0a : Nat} {a1 : Int32} {a2 : Int32} {a3 : Int32} : ∀ (n : Nat) (a4 : Int32) (M : am_M) (x : am_M), l_X5_countMoments_223 o0a a1 a2 a3 n a4 M = some x → am_W K d m_X5_countMoments 253 [(0, .inr (.inr (5, o0a, 0))), (1, .inl a1), (2, .inl a2), (3, .inl a3)] [] x post → am_W K d m_X5_countMoments 223 [(0, .inr (.inr (5, o0a, 0))), (1, .inl a1), (2, .inl a2), (3, .inl a3), (4, .inl a4)] [] M post := by
  intro n
  induction n with
  | zero => intro a4 M x h KX; cases h
  | succ n ih =>
    intro a4 M x h KX
    rw [l_X5_countMoments_223] at h
    refine am_iload dX5_countMoments_223 rfl ?_
    refine am_iload_n dX5_countMoments_225 rfl ?_
    refine am_icmp_gt 253 dX5_countMoments_226 rfl (fun b67 => ?_) (fun b67 => ?_)
    · replace h := am_ifT b67 h
      obtain rfl := Option.some.inj h
      exact am_drop [0, 1, 2, 3] rfl KX
    · replace h := am_ifF b67 h
      refine am_aload_n dX5_countMoments_229 rfl ?_
      refine am_getR (o' := o0a) dX5_countMoments_230 fl_RX5_75 sh_5 rfl rfl hk_5 ?_
      refine am_iload_n dX5_countMoments_233 rfl ?_
      obtain ⟨g61, h⟩ := am_grd h
      refine am_aaload dX5_countMoments_234 sh_632 rfl rfl hk_632 (am_inbE g61) ?_
      refine am_top (w := .inr (.inr (732, o0a, a3.toNatClampNeg))) rfl ?_
      refine am_iload dX5_countMoments_235 rfl ?_
      refine am_aload_n dX5_countMoments_237 rfl ?_
      refine am_getR (o' := o0a) dX5_countMoments_238 fl_RX5_78 sh_5 rfl rfl hk_5 ?_
      refine am_iload_n dX5_countMoments_241 rfl ?_
      obtain ⟨g62, h⟩ := am_grd h
      refine am_aaload dX5_countMoments_242 sh_633 rfl rfl hk_633 (am_inbE g62) ?_
      refine am_top (w := .inr (.inr (733, o0a, a3.toNatClampNeg))) rfl ?_
      refine am_iload dX5_countMoments_243 rfl ?_
      obtain ⟨g63, h⟩ := am_grd h
      refine am_laload dX5_countMoments_245 sh_733 hk_733 (am_inbE g63) ?_
      obtain ⟨g64, h⟩ := am_grd h
      obtain ⟨M65, eM65, h⟩ := am_letE h
      refine am_lastore dX5_countMoments_246 sh_732 hk_732 (am_inbE g64) ?_
      refine am_mem eM65 ?_
      obtain ⟨v66, ev66, h⟩ := am_letE h
      refine am_iinc (ls' := [(0, .inr (.inr (5, o0a, 0))), (1, .inl a1), (2, .inl a2), (3, .inl a3), (4, .inl v66)]) dX5_countMoments_247 rfl ((congrArg (fun z => a4 + z) ic_1).trans ev66.symm) (Nat.le_of_ble_eq_true rfl) rfl ?_
      refine am_goto 223 dX5_countMoments_250 rfl ?_
      exact am_drop [0, 1, 2, 3, 4] rfl (ih _ _ _ h KX)
def l_X5_countMoments_215 (o0a : Nat) (a1 : Int32) (a2 : Int32) : Nat → Int32 → am_M → Option (am_M)
  | 0, _, _ => none
  | n + 1, a3, M => (if a2 < a3 then some M else (l_X5_countMoments_223 o0a a1 a2 a3 1000 (0 : Int32) M).bind (fun z68 => am_let (a3 + (1 : Int32)) (fun v71 => l_X5_countMoments_215 o0a a1 a2 n v71 z68)))
set_option maxHeartbeats 4000000 in
theorem wl_X5_countMoments_215 {K : am_K} {d : Nat} {post : Option am_V → am_M → Prop} {o0a : Nat} {a1 : Int32} {a2 : Int32} : ∀ (n : Nat) (a3 : Int32) (M : am_M) (x : am_M), l_X5_countMoments_215 o0a a1 a2 n a3 M = some x → am_W K d m_X5_countMoments 259 [(0, .inr (.inr (5, o0a, 0))), (1, .inl a1), (2, .inl a2)] [] x post → am_W K d m_X5_countMoments 215 [(0, .inr (.inr (5, o0a, 0))), (1, .inl a1), (2, .inl a2), (3, .inl a3)] [] M post := by
  intro n
  induction n with
  | zero => intro a3 M x h KX; cases h
  | succ n ih =>
    intro a3 M x h KX
    rw [l_X5_countMoments_215] at h
    refine am_iload_n dX5_countMoments_215 rfl ?_
    refine am_iload_n dX5_countMoments_216 rfl ?_
    refine am_icmp_gt 259 dX5_countMoments_217 rfl (fun b72 => ?_) (fun b72 => ?_)
    · replace h := am_ifT b72 h
      obtain rfl := Option.some.inj h
      exact am_drop [0, 1, 2] rfl KX
    · replace h := am_ifF b72 h
      refine am_iconst dX5_countMoments_220 ic_0 ?_
      refine am_istore (ls' := [(0, .inr (.inr (5, o0a, 0))), (1, .inl a1), (2, .inl a2), (3, .inl a3), (4, .inl (0 : Int32))]) dX5_countMoments_221 (Nat.le_of_ble_eq_true rfl) rfl ?_
      obtain ⟨z68, h69, h⟩ := am_bnd h
      have KK70 : am_W K d m_X5_countMoments 253 [(0, .inr (.inr (5, o0a, 0))), (1, .inl a1), (2, .inl a2), (3, .inl a3)] [] z68 post := by
        obtain ⟨v71, ev71, h⟩ := am_letE h
        refine am_iinc (ls' := [(0, .inr (.inr (5, o0a, 0))), (1, .inl a1), (2, .inl a2), (3, .inl v71)]) dX5_countMoments_253 rfl ((congrArg (fun z => a3 + z) ic_1).trans ev71.symm) (Nat.le_of_ble_eq_true rfl) rfl ?_
        refine am_goto 215 dX5_countMoments_256 rfl ?_
        exact am_drop [0, 1, 2, 3] rfl (ih _ _ _ h KX)
      exact am_drop [0, 1, 2, 3, 4] rfl (wl_X5_countMoments_223 _ _ _ _ h69 KK70)
def l_X5_countMoments_63 (o0a : Nat) (a1 : Int32) : Nat → Int32 → am_M → Option (am_M)
  | 0, _, _ => none
  | n + 1, a2, M => (if (M.1 5 o0a 0 29) < a2 then some M else (l_X5_countMoments_73 o0a a1 a2 1000 (0 : Int32) M).bind (fun z58 => (l_X5_countMoments_215 o0a a1 a2 1000 (0 : Int32) z58).bind (fun z73 => am_let (a2 + (1 : Int32)) (fun v76 => l_X5_countMoments_63 o0a a1 n v76 z73))))
set_option maxHeartbeats 4000000 in
theorem wl_X5_countMoments_63 {K : am_K} {d : Nat} {post : Option am_V → am_M → Prop} {o0a : Nat} {a1 : Int32} : ∀ (n : Nat) (a2 : Int32) (M : am_M) (x : am_M), l_X5_countMoments_63 o0a a1 n a2 M = some x → am_W K d m_X5_countMoments 265 [] [] x post → am_W K d m_X5_countMoments 63 [(0, .inr (.inr (5, o0a, 0))), (1, .inl a1), (2, .inl a2)] [] M post := by
  intro n
  induction n with
  | zero => intro a2 M x h KX; cases h
  | succ n ih =>
    intro a2 M x h KX
    rw [l_X5_countMoments_63] at h
    refine am_iload_n dX5_countMoments_63 rfl ?_
    refine am_aload_n dX5_countMoments_64 rfl ?_
    refine am_getI dX5_countMoments_65 fl_RX5_254 sh_5 rfl hk_5 ?_
    refine am_icmp_gt 265 dX5_countMoments_68 rfl (fun b77 => ?_) (fun b77 => ?_)
    · replace h := am_ifT b77 h
      obtain rfl := Option.some.inj h
      exact am_drop [] rfl KX
    · replace h := am_ifF b77 h
      refine am_iconst dX5_countMoments_71 ic_0 ?_
      refine am_istore_n (ls' := [(0, .inr (.inr (5, o0a, 0))), (1, .inl a1), (2, .inl a2), (3, .inl (0 : Int32))]) dX5_countMoments_72 (Nat.le_of_ble_eq_true rfl) rfl ?_
      obtain ⟨z58, h59, h⟩ := am_bnd h
      have KK60 : am_W K d m_X5_countMoments 213 [(0, .inr (.inr (5, o0a, 0))), (1, .inl a1), (2, .inl a2)] [] z58 post := by
        refine am_iconst dX5_countMoments_213 ic_0 ?_
        refine am_istore_n (ls' := [(0, .inr (.inr (5, o0a, 0))), (1, .inl a1), (2, .inl a2), (3, .inl (0 : Int32))]) dX5_countMoments_214 (Nat.le_of_ble_eq_true rfl) rfl ?_
        obtain ⟨z73, h74, h⟩ := am_bnd h
        have KK75 : am_W K d m_X5_countMoments 259 [(0, .inr (.inr (5, o0a, 0))), (1, .inl a1), (2, .inl a2)] [] z73 post := by
          obtain ⟨v76, ev76, h⟩ := am_letE h
          refine am_iinc (ls' := [(0, .inr (.inr (5, o0a, 0))), (1, .inl a1), (2, .inl v76)]) dX5_countMoments_259 rfl ((congrArg (fun z => a2 + z) ic_1).trans ev76.symm) (Nat.le_of_ble_eq_true rfl) rfl ?_
          refine am_goto 63 dX5_countMoments_262 rfl ?_
          exact am_drop [0, 1, 2] rfl (ih _ _ _ h KX)
        exact am_drop [0, 1, 2, 3] rfl (wl_X5_countMoments_215 _ _ _ _ h74 KK75)
      exact am_drop [0, 1, 2, 3] rfl (wl_X5_countMoments_73 _ _ _ _ h59 KK60)
def f_X5_countMoments (M : am_M) (o : Nat) (x1 : Int32) : Option (am_M) :=
  (l_X5_countMoments_2 o x1 1000 (0 : Int32) M).bind (fun z11 => ((if (z11.1 728 o (0 : Int32).toNatClampNeg (0 : Int32).toNatClampNeg) = 0 then some (0 : Int64) else some (1 : Int64)) : Option (Int64)).bind (fun z14 => am_let (am_sl z11 732 o (0 : Int32).toNatClampNeg (0 : Int32).toNatClampNeg z14) (fun M18 => (l_X5_countMoments_63 o x1 1000 (1 : Int32) M18).bind (fun z78 => some z78))))
set_option maxHeartbeats 4000000 in
theorem w_X5_countMoments {K : am_K} {d : Nat} {post : Option am_V → am_M → Prop} {M : am_M} {o : Nat} {x1 : Int32} {y : am_M} (h : f_X5_countMoments M o x1 = some y) (hp : post none y) : am_W K d m_X5_countMoments 0 [(0, .inr (.inr (5, o, 0))), (1, .inl x1)] [] M post := by
  unfold f_X5_countMoments at h
  refine am_iconst dX5_countMoments_0 ic_0 ?_
  refine am_istore_n (ls' := [(0, .inr (.inr (5, o, 0))), (1, .inl x1), (2, .inl (0 : Int32))]) dX5_countMoments_1 (Nat.le_of_ble_eq_true rfl) rfl ?_
  obtain ⟨z11, h12, h⟩ := am_bnd h
  have KK13 : am_W K d m_X5_countMoments 37 [(0, .inr (.inr (5, o, 0))), (1, .inl x1)] [] z11 post := by
    refine am_aload_n dX5_countMoments_37 rfl ?_
    refine am_getR (o' := o) dX5_countMoments_38 fl_RX5_75 sh_5 rfl rfl hk_5 ?_
    refine am_iconst dX5_countMoments_41 ic_0 ?_
    refine am_aaload dX5_countMoments_42 sh_632 rfl rfl hk_632 (am_inbE (by decide)) ?_
    refine am_top (w := .inr (.inr (732, o, (0 : Int32).toNatClampNeg))) rfl ?_
    refine am_iconst dX5_countMoments_43 ic_0 ?_
    refine am_aload_n dX5_countMoments_44 rfl ?_
    refine am_getR (o' := o) dX5_countMoments_45 fl_RX5_66 sh_5 rfl rfl hk_5 ?_
    refine am_iconst dX5_countMoments_48 ic_0 ?_
    refine am_aaload dX5_countMoments_49 sh_628 rfl rfl hk_628 (am_inbE (by decide)) ?_
    refine am_top (w := .inr (.inr (728, o, (0 : Int32).toNatClampNeg))) rfl ?_
    refine am_iconst dX5_countMoments_50 ic_0 ?_
    refine am_zaload dX5_countMoments_51 sh_728 hk_728 (am_inbE (by decide)) ?_
    obtain ⟨z14, h15, h⟩ := am_bnd h
    have KK16 : am_W K d m_X5_countMoments 60 [(0, .inr (.inr (5, o, 0))), (1, .inl x1)] [.inr (.inl z14), .inl (0 : Int32), .inr (.inr (732, o, (0 : Int32).toNatClampNeg))] z11 post := by
      obtain ⟨M18, eM18, h⟩ := am_letE h
      refine am_lastore dX5_countMoments_60 sh_732 hk_732 (am_inbE (by decide)) ?_
      refine am_mem eM18 ?_
      refine am_iconst dX5_countMoments_61 ic_1 ?_
      refine am_istore_n (ls' := [(0, .inr (.inr (5, o, 0))), (1, .inl x1), (2, .inl (1 : Int32))]) dX5_countMoments_62 (Nat.le_of_ble_eq_true rfl) rfl ?_
      obtain ⟨z78, h79, h⟩ := am_bnd h
      have KK80 : am_W K d m_X5_countMoments 265 [] [] z78 post := by
        obtain rfl := Option.some.inj h
        exact am_return dX5_countMoments_265 rfl hp
      exact am_drop [0, 1, 2] rfl (wl_X5_countMoments_63 _ _ _ _ h79 KK80)
    clear h
    refine am_if_eq 59 dX5_countMoments_52 rfl (fun b17 => ?_) (fun b17 => ?_)
    · replace h15 := am_ifT b17 h15
      refine am_lconst dX5_countMoments_59 lc_0 ?_
      obtain rfl := Option.some.inj h15
      exact am_drop [0, 1] rfl KK16
    · replace h15 := am_ifF b17 h15
      refine am_lconst dX5_countMoments_55 lc_1 ?_
      refine am_goto 60 dX5_countMoments_56 rfl ?_
      obtain rfl := Option.some.inj h15
      exact am_drop [0, 1] rfl KK16
  exact am_drop [0, 1, 2] rfl (wl_X5_countMoments_2 _ _ _ _ h12 KK13)
theorem c_X5_countMoments {K : am_K} {d : Nat} {M : am_M} {o : Nat} {x1 : Int32} {y : am_M} (h : f_X5_countMoments M o x1 = some y) : am_Met K d m_X5_countMoments [.inr (.inr (5, o, 0)), .inl x1] M (fun q N => q = none ∧ N = y) :=
  am_Met_of cb_X5_countMoments (Nat.le_of_ble_eq_true rfl) (w_X5_countMoments h ⟨rfl, rfl⟩)
def l_X5_levels_5 (M : am_M) (o0a : Nat) (a1 : Int32) : Nat → Int64 → Int32 → Option (Int64)
  | 0, _, _ => none
  | n + 1, a2, a4 => (if (M.1 5 o0a 0 29) < a4 then some a2 else if am_inb a4 25 = true then if am_inb a1 25 = true then am_let (a2 + (M.2 732 o0a a4.toNatClampNeg a1.toNatClampNeg)) (fun v3 => am_let (a4 + (1 : Int32)) (fun v4 => l_X5_levels_5 M o0a a1 n v3 v4)) else none else none)
set_option maxHeartbeats 4000000 in
theorem wl_X5_levels_5 {K : am_K} {d : Nat} {post : Option am_V → am_M → Prop} {M : am_M} {o0a : Nat} {a1 : Int32} : ∀ (n : Nat) (a2 : Int64) (a4 : Int32) (x : Int64), l_X5_levels_5 M o0a a1 n a2 a4 = some x → am_W K d m_X5_levels 32 [(2, .inr (.inl x))] [] M post → am_W K d m_X5_levels 5 [(0, .inr (.inr (5, o0a, 0))), (1, .inl a1), (2, .inr (.inl a2)), (4, .inl a4)] [] M post := by
  intro n
  induction n with
  | zero => intro a2 a4 x h KX; cases h
  | succ n ih =>
    intro a2 a4 x h KX
    rw [l_X5_levels_5] at h
    refine am_iload dX5_levels_5 rfl ?_
    refine am_aload_n dX5_levels_7 rfl ?_
    refine am_getI dX5_levels_8 fl_RX5_254 sh_5 rfl hk_5 ?_
    refine am_icmp_gt 32 dX5_levels_11 rfl (fun b5 => ?_) (fun b5 => ?_)
    · replace h := am_ifT b5 h
      obtain rfl := Option.some.inj h
      exact am_drop [2] rfl KX
    · replace h := am_ifF b5 h
      refine am_lload_n dX5_levels_14 rfl ?_
      refine am_aload_n dX5_levels_15 rfl ?_
      refine am_getR (o' := o0a) dX5_levels_16 fl_RX5_75 sh_5 rfl rfl hk_5 ?_
      refine am_iload dX5_levels_19 rfl ?_
      obtain ⟨g1, h⟩ := am_grd h
      refine am_aaload dX5_levels_21 sh_632 rfl rfl hk_632 (am_inbE g1) ?_
      refine am_top (w := .inr (.inr (732, o0a, a4.toNatClampNeg))) rfl ?_
      refine am_iload_n dX5_levels_22 rfl ?_
      obtain ⟨g2, h⟩ := am_grd h
      refine am_laload dX5_levels_23 sh_732 hk_732 (am_inbE g2) ?_
      refine am_ladd dX5_levels_24 ?_
      obtain ⟨v3, ev3, h⟩ := am_letE h
      refine am_topL ev3 ?_
      refine am_lstore_n (ls' := [(0, .inr (.inr (5, o0a, 0))), (1, .inl a1), (2, .inr (.inl v3)), (4, .inl a4)]) dX5_levels_25 (Nat.le_of_ble_eq_true rfl) rfl ?_
      obtain ⟨v4, ev4, h⟩ := am_letE h
      refine am_iinc (ls' := [(0, .inr (.inr (5, o0a, 0))), (1, .inl a1), (2, .inr (.inl v3)), (4, .inl v4)]) dX5_levels_26 rfl ((congrArg (fun z => a4 + z) ic_1).trans ev4.symm) (Nat.le_of_ble_eq_true rfl) rfl ?_
      refine am_goto 5 dX5_levels_29 rfl ?_
      exact am_drop [0, 1, 2, 4] rfl (ih _ _ _ h KX)
def f_X5_levels (M : am_M) (o : Nat) (x1 : Int32) : Option (Int64) :=
  (l_X5_levels_5 M o x1 1000 (0 : Int64) (0 : Int32)).bind (fun z6 => some z6)
set_option maxHeartbeats 4000000 in
theorem w_X5_levels {K : am_K} {d : Nat} {post : Option am_V → am_M → Prop} {M : am_M} {o : Nat} {x1 : Int32} {y : Int64} (h : f_X5_levels M o x1 = some y) (hp : post (some (.inr (.inl y))) M) : am_W K d m_X5_levels 0 [(0, .inr (.inr (5, o, 0))), (1, .inl x1)] [] M post := by
  unfold f_X5_levels at h
  refine am_lconst dX5_levels_0 lc_0 ?_
  refine am_lstore_n (ls' := [(0, .inr (.inr (5, o, 0))), (1, .inl x1), (2, .inr (.inl (0 : Int64)))]) dX5_levels_1 (Nat.le_of_ble_eq_true rfl) rfl ?_
  refine am_iconst dX5_levels_2 ic_0 ?_
  refine am_istore (ls' := [(0, .inr (.inr (5, o, 0))), (1, .inl x1), (2, .inr (.inl (0 : Int64))), (4, .inl (0 : Int32))]) dX5_levels_3 (Nat.le_of_ble_eq_true rfl) rfl ?_
  obtain ⟨z6, h7, h⟩ := am_bnd h
  have KK8 : am_W K d m_X5_levels 32 [(2, .inr (.inl z6))] [] M post := by
    refine am_lload_n dX5_levels_32 rfl ?_
    obtain rfl := Option.some.inj h
    exact am_lreturn dX5_levels_33 rfl hp
  exact am_drop [0, 1, 2, 4] rfl (wl_X5_levels_5 _ _ _ _ h7 KK8)
theorem c_X5_levels {K : am_K} {d : Nat} {M : am_M} {o : Nat} {x1 : Int32} {y : Int64} (h : f_X5_levels M o x1 = some y) : am_Met K d m_X5_levels [.inr (.inr (5, o, 0)), .inl x1] M (fun q N => q = some (.inr (.inl y)) ∧ N = M) :=
  am_Met_of cb_X5_levels (Nat.le_of_ble_eq_true rfl) (w_X5_levels h ⟨rfl, rfl⟩)
def f_X5_level (M : am_M) (o : Nat) (x1 : Int32) : Option (Int32 × am_M) :=
  (f_X5_in M x1.toInt64 (0 : Int64) (24 : Int64)).bind (fun r2 => (if r2 = 0 then (f_X5_refuse M o (-2 : Int32)).bind (fun r10 => some (r10.1, r10.2)) else (f_X5_seeAll M o).bind (fun r4 => (f_X5_countMoments r4 o (1 : Int32)).bind (fun r6 => (f_X5_levels r6 o x1).bind (fun r8 => some (r8.toInt32, r6))))))
set_option maxHeartbeats 4000000 in
theorem w_X5_level {K : am_K} {d : Nat} {post : Option am_V → am_M → Prop} {M : am_M} {o : Nat} {x1 : Int32} {y : Int32 × am_M} (h : f_X5_level M o x1 = some y) (hp : post (some (.inl y.1)) y.2) : am_W K (d + 4) m_X5_level 0 [(0, .inr (.inr (5, o, 0))), (1, .inl x1)] [] M post := by
  unfold f_X5_level at h
  refine am_iload_n dX5_level_0 rfl ?_
  refine am_i2l dX5_level_1 ?_
  refine am_lconst dX5_level_2 lc_0 ?_
  refine am_ldc2 dX5_level_3 kc_RX5_149 ?_
  obtain ⟨r2, c1, h⟩ := am_bnd h
  refine am_callSi (as := [.inr (.inl x1.toInt64), .inr (.inl (0 : Int64)), .inr (.inl (24 : Int64))]) dX5_level_6 cs_RX5_95 cb_X5_in rfl rfl (Nat.le_of_ble_eq_true rfl) (c_X5_in c1) ?_
  refine am_if_ne 19 dX5_level_9 rfl (fun b11 => ?_) (fun b11 => ?_)
  · replace h := am_ifF b11 h
    refine am_aload_n dX5_level_19 rfl ?_
    obtain ⟨r4, c3, h⟩ := am_bnd h
    refine am_callVv (as := []) dX5_level_20 cv_RX5_276 cb_X5_seeAll sh_5 rfl hk_5 rfl rfl (Nat.le_of_ble_eq_true rfl) (c_X5_seeAll c3) ?_
    refine am_aload_n dX5_level_23 rfl ?_
    refine am_iconst dX5_level_24 ic_1 ?_
    obtain ⟨r6, c5, h⟩ := am_bnd h
    refine am_callVv (as := [.inl (1 : Int32)]) dX5_level_25 cv_RX5_296 cb_X5_countMoments sh_5 rfl hk_5 rfl rfl (Nat.le_of_ble_eq_true rfl) (c_X5_countMoments c5) ?_
    refine am_aload_n dX5_level_28 rfl ?_
    refine am_iload_n dX5_level_29 rfl ?_
    obtain ⟨r8, c7, h⟩ := am_bnd h
    refine am_callVl (as := [.inl x1]) dX5_level_30 cv_RX5_300 cb_X5_levels sh_5 rfl hk_5 rfl rfl (Nat.le_of_ble_eq_true rfl) (c_X5_levels c7) ?_
    refine am_l2i dX5_level_33 ?_
    obtain rfl := Option.some.inj h
    exact am_ireturn dX5_level_34 rfl rfl hp
  · replace h := am_ifT b11 h
    refine am_aload_n dX5_level_12 rfl ?_
    refine am_bipush dX5_level_13 bp_m2 ?_
    obtain ⟨r10, c9, h⟩ := am_bnd h
    refine am_callVi (as := [.inl (-2 : Int32)]) dX5_level_15 cv_RX5_103 cb_X5_refuse sh_5 rfl hk_5 rfl rfl (Nat.le_of_ble_eq_true rfl) (c_X5_refuse c9) ?_
    obtain rfl := Option.some.inj h
    exact am_ireturn dX5_level_18 rfl rfl hp
theorem c_X5_level {K : am_K} {d : Nat} {M : am_M} {o : Nat} {x1 : Int32} {y : Int32 × am_M} (h : f_X5_level M o x1 = some y) : am_Met K (d + 4) m_X5_level [.inr (.inr (5, o, 0)), .inl x1] M (fun q N => q = some (.inl y.1) ∧ N = y.2) :=
  am_Met_of cb_X5_level (Nat.le_of_ble_eq_true rfl) (w_X5_level h ⟨rfl, rfl⟩)
def f_X5_last (M : am_M) (o : Nat) (x1 : Int32) : Option (Int32 × am_M) :=
  (f_X5_in M x1.toInt64 (0 : Int64) (24 : Int64)).bind (fun r2 => (if r2 = 0 then (f_X5_refuse M o (-2 : Int32)).bind (fun r17 => some (r17.1, r17.2)) else (f_X5_seeAll M o).bind (fun r4 => (f_X5_count r4 o (4 : Int32) x1).bind (fun r6 => am_let r6.1 (fun v7 => ((if x1 = 0 then some ((0 : Int64), r6.2) else (f_X5_count r6.2 o (4 : Int32) (x1 - (1 : Int32))).bind (fun r12 => some (r12.1, r12.2))) : Option (Int64 × am_M)).bind (fun z8 => am_let z8.1 (fun v14 => (if x1 ≤ (z8.2.1 5 o 0 29) then some ((v7 - v14).toInt32, z8.2) else some ((0 : Int32), z8.2)))))))))
set_option maxHeartbeats 4000000 in
theorem w_X5_last {K : am_K} {d : Nat} {post : Option am_V → am_M → Prop} {M : am_M} {o : Nat} {x1 : Int32} {y : Int32 × am_M} (h : f_X5_last M o x1 = some y) (hp : post (some (.inl y.1)) y.2) : am_W K (d + 4) m_X5_last 0 [(0, .inr (.inr (5, o, 0))), (1, .inl x1)] [] M post := by
  unfold f_X5_last at h
  refine am_iload_n dX5_last_0 rfl ?_
  refine am_i2l dX5_last_1 ?_
  refine am_lconst dX5_last_2 lc_0 ?_
  refine am_ldc2 dX5_last_3 kc_RX5_149 ?_
  obtain ⟨r2, c1, h⟩ := am_bnd h
  refine am_callSi (as := [.inr (.inl x1.toInt64), .inr (.inl (0 : Int64)), .inr (.inl (24 : Int64))]) dX5_last_6 cs_RX5_95 cb_X5_in rfl rfl (Nat.le_of_ble_eq_true rfl) (c_X5_in c1) ?_
  refine am_if_ne 19 dX5_last_9 rfl (fun b18 => ?_) (fun b18 => ?_)
  · replace h := am_ifF b18 h
    refine am_aload_n dX5_last_19 rfl ?_
    obtain ⟨r4, c3, h⟩ := am_bnd h
    refine am_callVv (as := []) dX5_last_20 cv_RX5_276 cb_X5_seeAll sh_5 rfl hk_5 rfl rfl (Nat.le_of_ble_eq_true rfl) (c_X5_seeAll c3) ?_
    refine am_aload_n dX5_last_23 rfl ?_
    refine am_iconst dX5_last_24 ic_4 ?_
    refine am_iload_n dX5_last_25 rfl ?_
    obtain ⟨r6, c5, h⟩ := am_bnd h
    refine am_callVl (as := [.inl (4 : Int32), .inl x1]) dX5_last_26 cv_RX5_273 cb_X5_count sh_5 rfl hk_5 rfl rfl (Nat.le_of_ble_eq_true rfl) (c_X5_count c5) ?_
    obtain ⟨v7, ev7, h⟩ := am_letE h
    refine am_topL ev7 ?_
    refine am_lstore_n (ls' := [(0, .inr (.inr (5, o, 0))), (1, .inl x1), (2, .inr (.inl v7))]) dX5_last_29 (Nat.le_of_ble_eq_true rfl) rfl ?_
    refine am_iload_n dX5_last_30 rfl ?_
    obtain ⟨z8, h9, h⟩ := am_bnd h
    have KK10 : am_W K (d + 4) m_X5_last 46 [(0, .inr (.inr (5, o, 0))), (1, .inl x1), (2, .inr (.inl v7))] [.inr (.inl z8.1)] z8.2 post := by
      obtain ⟨v14, ev14, h⟩ := am_letE h
      refine am_topL ev14 ?_
      refine am_lstore (ls' := [(0, .inr (.inr (5, o, 0))), (1, .inl x1), (2, .inr (.inl v7)), (4, .inr (.inl v14))]) dX5_last_46 (Nat.le_of_ble_eq_true rfl) rfl ?_
      refine am_iload_n dX5_last_48 rfl ?_
      refine am_aload_n dX5_last_49 rfl ?_
      refine am_getI dX5_last_50 fl_RX5_254 sh_5 rfl hk_5 ?_
      refine am_icmp_le 60 dX5_last_53 rfl (fun b15 => ?_) (fun b15 => ?_)
      · replace h := am_ifT b15 h
        refine am_lload_n dX5_last_60 rfl ?_
        refine am_lload dX5_last_61 rfl ?_
        refine am_lsub dX5_last_63 ?_
        refine am_l2i dX5_last_64 ?_
        obtain rfl := Option.some.inj h
        exact am_ireturn dX5_last_65 rfl rfl hp
      · replace h := am_ifF b15 h
        refine am_iconst dX5_last_56 ic_0 ?_
        refine am_goto 65 dX5_last_57 rfl ?_
        obtain rfl := Option.some.inj h
        exact am_ireturn dX5_last_65 rfl rfl hp
    clear h
    refine am_if_ne 38 dX5_last_31 rfl (fun b13 => ?_) (fun b13 => ?_)
    · replace h9 := am_ifF b13 h9
      refine am_aload_n dX5_last_38 rfl ?_
      refine am_iconst dX5_last_39 ic_4 ?_
      refine am_iload_n dX5_last_40 rfl ?_
      refine am_iconst dX5_last_41 ic_1 ?_
      refine am_isub dX5_last_42 ?_
      obtain ⟨r12, c11, h9⟩ := am_bnd h9
      refine am_callVl (as := [.inl (4 : Int32), .inl (x1 - (1 : Int32))]) dX5_last_43 cv_RX5_273 cb_X5_count sh_5 rfl hk_5 rfl rfl (Nat.le_of_ble_eq_true rfl) (c_X5_count c11) ?_
      obtain rfl := Option.some.inj h9
      exact am_drop [0, 1, 2] rfl KK10
    · replace h9 := am_ifT b13 h9
      refine am_lconst dX5_last_34 lc_0 ?_
      refine am_goto 46 dX5_last_35 rfl ?_
      obtain rfl := Option.some.inj h9
      exact am_drop [0, 1, 2] rfl KK10
  · replace h := am_ifT b18 h
    refine am_aload_n dX5_last_12 rfl ?_
    refine am_bipush dX5_last_13 bp_m2 ?_
    obtain ⟨r17, c16, h⟩ := am_bnd h
    refine am_callVi (as := [.inl (-2 : Int32)]) dX5_last_15 cv_RX5_103 cb_X5_refuse sh_5 rfl hk_5 rfl rfl (Nat.le_of_ble_eq_true rfl) (c_X5_refuse c16) ?_
    obtain rfl := Option.some.inj h
    exact am_ireturn dX5_last_18 rfl rfl hp
theorem c_X5_last {K : am_K} {d : Nat} {M : am_M} {o : Nat} {x1 : Int32} {y : Int32 × am_M} (h : f_X5_last M o x1 = some y) : am_Met K (d + 4) m_X5_last [.inr (.inr (5, o, 0)), .inl x1] M (fun q N => q = some (.inl y.1) ∧ N = y.2) :=
  am_Met_of cb_X5_last (Nat.le_of_ble_eq_true rfl) (w_X5_last h ⟨rfl, rfl⟩)
def f_X5_greatest (M : am_M) (o : Nat) (x1 : Int32) : Option (Int32 × am_M) :=
  (f_X5_in M x1.toInt64 (0 : Int64) (24 : Int64)).bind (fun r2 => (if r2 = 0 then (f_X5_refuse M o (-2 : Int32)).bind (fun r10 => some (r10.1, r10.2)) else (f_X5_countFits M o (3 : Int32) x1).bind (fun r4 => am_let r4.1 (fun v5 => (if x1 = 0 then some (v5.toInt32, r4.2) else (f_X5_count r4.2 o (3 : Int32) (x1 - (1 : Int32))).bind (fun r7 => some ((v5 - r7.1).toInt32, r7.2)))))))
set_option maxHeartbeats 4000000 in
theorem w_X5_greatest {K : am_K} {d : Nat} {post : Option am_V → am_M → Prop} {M : am_M} {o : Nat} {x1 : Int32} {y : Int32 × am_M} (h : f_X5_greatest M o x1 = some y) (hp : post (some (.inl y.1)) y.2) : am_W K (d + 5) m_X5_greatest 0 [(0, .inr (.inr (5, o, 0))), (1, .inl x1)] [] M post := by
  unfold f_X5_greatest at h
  refine am_iload_n dX5_greatest_0 rfl ?_
  refine am_i2l dX5_greatest_1 ?_
  refine am_lconst dX5_greatest_2 lc_0 ?_
  refine am_ldc2 dX5_greatest_3 kc_RX5_149 ?_
  obtain ⟨r2, c1, h⟩ := am_bnd h
  refine am_callSi (as := [.inr (.inl x1.toInt64), .inr (.inl (0 : Int64)), .inr (.inl (24 : Int64))]) dX5_greatest_6 cs_RX5_95 cb_X5_in rfl rfl (Nat.le_of_ble_eq_true rfl) (c_X5_in c1) ?_
  refine am_if_ne 19 dX5_greatest_9 rfl (fun b11 => ?_) (fun b11 => ?_)
  · replace h := am_ifF b11 h
    refine am_aload_n dX5_greatest_19 rfl ?_
    refine am_iconst dX5_greatest_20 ic_3 ?_
    refine am_iload_n dX5_greatest_21 rfl ?_
    obtain ⟨r4, c3, h⟩ := am_bnd h
    refine am_callVl (as := [.inl (3 : Int32), .inl x1]) dX5_greatest_22 cv_RX5_293 cb_X5_countFits sh_5 rfl hk_5 rfl rfl (Nat.le_of_ble_eq_true rfl) (c_X5_countFits c3) ?_
    obtain ⟨v5, ev5, h⟩ := am_letE h
    refine am_topL ev5 ?_
    refine am_lstore_n (ls' := [(0, .inr (.inr (5, o, 0))), (1, .inl x1), (2, .inr (.inl v5))]) dX5_greatest_25 (Nat.le_of_ble_eq_true rfl) rfl ?_
    refine am_iload_n dX5_greatest_26 rfl ?_
    refine am_if_ne 34 dX5_greatest_27 rfl (fun b8 => ?_) (fun b8 => ?_)
    · replace h := am_ifF b8 h
      refine am_lload_n dX5_greatest_34 rfl ?_
      refine am_aload_n dX5_greatest_35 rfl ?_
      refine am_iconst dX5_greatest_36 ic_3 ?_
      refine am_iload_n dX5_greatest_37 rfl ?_
      refine am_iconst dX5_greatest_38 ic_1 ?_
      refine am_isub dX5_greatest_39 ?_
      obtain ⟨r7, c6, h⟩ := am_bnd h
      refine am_callVl (as := [.inl (3 : Int32), .inl (x1 - (1 : Int32))]) dX5_greatest_40 cv_RX5_273 cb_X5_count sh_5 rfl hk_5 rfl rfl (Nat.le_of_ble_eq_true rfl) (c_X5_count c6) ?_
      refine am_lsub dX5_greatest_43 ?_
      refine am_l2i dX5_greatest_44 ?_
      obtain rfl := Option.some.inj h
      exact am_ireturn dX5_greatest_45 rfl rfl hp
    · replace h := am_ifT b8 h
      refine am_lload_n dX5_greatest_30 rfl ?_
      refine am_goto 44 dX5_greatest_31 rfl ?_
      refine am_l2i dX5_greatest_44 ?_
      obtain rfl := Option.some.inj h
      exact am_ireturn dX5_greatest_45 rfl rfl hp
  · replace h := am_ifT b11 h
    refine am_aload_n dX5_greatest_12 rfl ?_
    refine am_bipush dX5_greatest_13 bp_m2 ?_
    obtain ⟨r10, c9, h⟩ := am_bnd h
    refine am_callVi (as := [.inl (-2 : Int32)]) dX5_greatest_15 cv_RX5_103 cb_X5_refuse sh_5 rfl hk_5 rfl rfl (Nat.le_of_ble_eq_true rfl) (c_X5_refuse c9) ?_
    obtain rfl := Option.some.inj h
    exact am_ireturn dX5_greatest_18 rfl rfl hp
theorem c_X5_greatest {K : am_K} {d : Nat} {M : am_M} {o : Nat} {x1 : Int32} {y : Int32 × am_M} (h : f_X5_greatest M o x1 = some y) : am_Met K (d + 5) m_X5_greatest [.inr (.inr (5, o, 0)), .inl x1] M (fun q N => q = some (.inl y.1) ∧ N = y.2) :=
  am_Met_of cb_X5_greatest (Nat.le_of_ble_eq_true rfl) (w_X5_greatest h ⟨rfl, rfl⟩)
def l_X5_findSure_42 (o0a : Nat) (a1 : Int32) (a2 : Int32) : Nat → Int32 → am_M → Option (am_M)
  | 0, _, _ => none
  | n + 1, a3, M => (if a2 < a3 then some M else ((if a2 = 0 then some (1 : Int64) else ((if a3 ≤ 0 then some (0 : Int64) else if am_inb (a2 - (1 : Int32)) 25 = true then if am_inb (a3 - (1 : Int32)) 25 = true then some (M.2 730 o0a (a2 - (1 : Int32)).toNatClampNeg (a3 - (1 : Int32)).toNatClampNeg) else none else none) : Option (Int64)).bind (fun z14 => ((if a2 ≤ a3 then some (0 : Int64) else if am_inb (a2 - (1 : Int32)) 25 = true then if am_inb a3 25 = true then some (M.2 730 o0a (a2 - (1 : Int32)).toNatClampNeg a3.toNatClampNeg) else none else none) : Option (Int64)).bind (fun z20 => some (z14 + z20)))) : Option (Int64)).bind (fun z11 => if am_inb a2 25 = true then if am_inb a2 25 = true then if am_inb a3 25 = true then ((if (M.1 728 o0a a2.toNatClampNeg a3.toNatClampNeg) = 0 then some (0 : Int64) else some z11) : Option (Int64)).bind (fun z30 => if am_inb a3 25 = true then am_let (am_sl M 730 o0a a2.toNatClampNeg a3.toNatClampNeg z30) (fun M35 => (f_X5_isSureAt M35 o0a a2 a3).bind (fun r37 => ((if r37 = 0 then (if a1 = 0 then some M35 else (if a2 = (M35.1 5 o0a 0 29) then if am_inb a2 25 = true then if am_inb a2 25 = true then if am_inb a3 25 = true then if am_inb a2 25 = true then if am_inb a3 25 = true then if am_inb a2 25 = true then am_let (am_sl M35 634 o0a 0 a2.toNatClampNeg ((M35.2 634 o0a 0 a2.toNatClampNeg) + ((M35.2 730 o0a a2.toNatClampNeg a3.toNatClampNeg) * (M35.2 731 o0a a2.toNatClampNeg a3.toNatClampNeg)))) (fun M57 => if am_inb a2 25 = true then if am_inb a3 25 = true then am_let (am_sl M57 730 o0a a2.toNatClampNeg a3.toNatClampNeg (0 : Int64)) (fun M60 => some M60) else none else none) else none else none else none else none else none else none else some M35)) else if am_inb a2 25 = true then if am_inb a2 25 = true then if am_inb a3 25 = true then if am_inb a2 25 = true then if am_inb a3 25 = true then if am_inb a2 25 = true then am_let (am_sl M35 634 o0a 0 a2.toNatClampNeg ((M35.2 634 o0a 0 a2.toNatClampNeg) + ((M35.2 730 o0a a2.toNatClampNeg a3.toNatClampNeg) * (M35.2 731 o0a a2.toNatClampNeg a3.toNatClampNeg)))) (fun M47 => if am_inb a2 25 = true then if am_inb a3 25 = true then am_let (am_sl M47 730 o0a a2.toNatClampNeg a3.toNatClampNeg (0 : Int64)) (fun M50 => some M50) else none else none) else none else none else none else none else none else none) : Option (am_M)).bind (fun z38 => am_let (a3 + (1 : Int32)) (fun v64 => l_X5_findSure_42 o0a a1 a2 n v64 z38)))) else none) else none else none else none))
set_option maxHeartbeats 4000000 in
theorem wl_X5_findSure_42 {K : am_K} {d : Nat} {post : Option am_V → am_M → Prop} {o0a : Nat} {a1 : Int32} {a2 : Int32} : ∀ (n : Nat) (a3 : Int32) (M : am_M) (x : am_M), l_X5_findSure_42 o0a a1 a2 n a3 M = some x → am_W K (d + 1) m_X5_findSure 184 [(0, .inr (.inr (5, o0a, 0))), (1, .inl a1), (2, .inl a2)] [] x post → am_W K (d + 1) m_X5_findSure 42 [(0, .inr (.inr (5, o0a, 0))), (1, .inl a1), (2, .inl a2), (3, .inl a3)] [] M post := by
  intro n
  induction n with
  | zero => intro a3 M x h KX; cases h
  | succ n ih =>
    intro a3 M x h KX
    rw [l_X5_findSure_42] at h
    refine am_iload_n dX5_findSure_42 rfl ?_
    refine am_iload_n dX5_findSure_43 rfl ?_
    refine am_icmp_gt 184 dX5_findSure_44 rfl (fun b65 => ?_) (fun b65 => ?_)
    · replace h := am_ifT b65 h
      obtain rfl := Option.some.inj h
      exact am_drop [0, 1, 2] rfl KX
    · replace h := am_ifF b65 h
      refine am_iload_n dX5_findSure_47 rfl ?_
      obtain ⟨z11, h12, h⟩ := am_bnd h
      have KK13 : am_W K (d + 1) m_X5_findSure 95 [(0, .inr (.inr (5, o0a, 0))), (1, .inl a1), (2, .inl a2), (3, .inl a3)] [.inr (.inl z11)] M post := by
        refine am_lstore (ls' := [(0, .inr (.inr (5, o0a, 0))), (1, .inl a1), (2, .inl a2), (3, .inl a3), (4, .inr (.inl z11))]) dX5_findSure_95 (Nat.le_of_ble_eq_true rfl) rfl ?_
        refine am_aload_n dX5_findSure_97 rfl ?_
        refine am_getR (o' := o0a) dX5_findSure_98 fl_RX5_69 sh_5 rfl rfl hk_5 ?_
        refine am_iload_n dX5_findSure_101 rfl ?_
        obtain ⟨g27, h⟩ := am_grd h
        refine am_aaload dX5_findSure_102 sh_630 rfl rfl hk_630 (am_inbE g27) ?_
        refine am_top (w := .inr (.inr (730, o0a, a2.toNatClampNeg))) rfl ?_
        refine am_iload_n dX5_findSure_103 rfl ?_
        refine am_aload_n dX5_findSure_104 rfl ?_
        refine am_getR (o' := o0a) dX5_findSure_105 fl_RX5_66 sh_5 rfl rfl hk_5 ?_
        refine am_iload_n dX5_findSure_108 rfl ?_
        obtain ⟨g28, h⟩ := am_grd h
        refine am_aaload dX5_findSure_109 sh_628 rfl rfl hk_628 (am_inbE g28) ?_
        refine am_top (w := .inr (.inr (728, o0a, a2.toNatClampNeg))) rfl ?_
        refine am_iload_n dX5_findSure_110 rfl ?_
        obtain ⟨g29, h⟩ := am_grd h
        refine am_zaload dX5_findSure_111 sh_728 hk_728 (am_inbE g29) ?_
        obtain ⟨z30, h31, h⟩ := am_bnd h
        have KK32 : am_W K (d + 1) m_X5_findSure 121 [(0, .inr (.inr (5, o0a, 0))), (1, .inl a1), (2, .inl a2), (3, .inl a3)] [.inr (.inl z30), .inl a3, .inr (.inr (730, o0a, a2.toNatClampNeg))] M post := by
          obtain ⟨g34, h⟩ := am_grd h
          obtain ⟨M35, eM35, h⟩ := am_letE h
          refine am_lastore dX5_findSure_121 sh_730 hk_730 (am_inbE g34) ?_
          refine am_mem eM35 ?_
          refine am_aload_n dX5_findSure_122 rfl ?_
          refine am_iload_n dX5_findSure_123 rfl ?_
          refine am_iload_n dX5_findSure_124 rfl ?_
          obtain ⟨r37, c36, h⟩ := am_bnd h
          refine am_callVi (as := [.inl a2, .inl a3]) dX5_findSure_125 cv_RX5_307 cb_X5_isSureAt sh_5 rfl hk_5 rfl rfl (Nat.le_of_ble_eq_true rfl) (c_X5_isSureAt c36) ?_
          obtain ⟨z38, h39, h⟩ := am_bnd h
          have KK40 : am_W K (d + 1) m_X5_findSure 178 [(0, .inr (.inr (5, o0a, 0))), (1, .inl a1), (2, .inl a2), (3, .inl a3)] [] z38 post := by
            obtain ⟨v64, ev64, h⟩ := am_letE h
            refine am_iinc (ls' := [(0, .inr (.inr (5, o0a, 0))), (1, .inl a1), (2, .inl a2), (3, .inl v64)]) dX5_findSure_178 rfl ((congrArg (fun z => a3 + z) ic_1).trans ev64.symm) (Nat.le_of_ble_eq_true rfl) rfl ?_
            refine am_goto 42 dX5_findSure_181 rfl ?_
            exact am_drop [0, 1, 2, 3] rfl (ih _ _ _ h KX)
          clear h
          refine am_if_ne 143 dX5_findSure_128 rfl (fun b63 => ?_) (fun b63 => ?_)
          · replace h39 := am_ifF b63 h39
            refine am_aload_n dX5_findSure_143 rfl ?_
            refine am_getR (o' := o0a) dX5_findSure_144 fl_RX5_81 sh_5 rfl rfl hk_5 ?_
            refine am_iload_n dX5_findSure_147 rfl ?_
            refine am_dup2 dX5_findSure_148 rfl rfl ?_
            obtain ⟨g41, h39⟩ := am_grd h39
            refine am_laload dX5_findSure_149 sh_634 hk_634 (am_inbE g41) ?_
            refine am_aload_n dX5_findSure_150 rfl ?_
            refine am_getR (o' := o0a) dX5_findSure_151 fl_RX5_69 sh_5 rfl rfl hk_5 ?_
            refine am_iload_n dX5_findSure_154 rfl ?_
            obtain ⟨g42, h39⟩ := am_grd h39
            refine am_aaload dX5_findSure_155 sh_630 rfl rfl hk_630 (am_inbE g42) ?_
            refine am_top (w := .inr (.inr (730, o0a, a2.toNatClampNeg))) rfl ?_
            refine am_iload_n dX5_findSure_156 rfl ?_
            obtain ⟨g43, h39⟩ := am_grd h39
            refine am_laload dX5_findSure_157 sh_730 hk_730 (am_inbE g43) ?_
            refine am_aload_n dX5_findSure_158 rfl ?_
            refine am_getR (o' := o0a) dX5_findSure_159 fl_RX5_72 sh_5 rfl rfl hk_5 ?_
            refine am_iload_n dX5_findSure_162 rfl ?_
            obtain ⟨g44, h39⟩ := am_grd h39
            refine am_aaload dX5_findSure_163 sh_631 rfl rfl hk_631 (am_inbE g44) ?_
            refine am_top (w := .inr (.inr (731, o0a, a2.toNatClampNeg))) rfl ?_
            refine am_iload_n dX5_findSure_164 rfl ?_
            obtain ⟨g45, h39⟩ := am_grd h39
            refine am_laload dX5_findSure_165 sh_731 hk_731 (am_inbE g45) ?_
            refine am_lmul dX5_findSure_166 ?_
            refine am_ladd dX5_findSure_167 ?_
            obtain ⟨g46, h39⟩ := am_grd h39
            obtain ⟨M47, eM47, h39⟩ := am_letE h39
            refine am_lastore dX5_findSure_168 sh_634 hk_634 (am_inbE g46) ?_
            refine am_mem eM47 ?_
            refine am_aload_n dX5_findSure_169 rfl ?_
            refine am_getR (o' := o0a) dX5_findSure_170 fl_RX5_69 sh_5 rfl rfl hk_5 ?_
            refine am_iload_n dX5_findSure_173 rfl ?_
            obtain ⟨g48, h39⟩ := am_grd h39
            refine am_aaload dX5_findSure_174 sh_630 rfl rfl hk_630 (am_inbE g48) ?_
            refine am_top (w := .inr (.inr (730, o0a, a2.toNatClampNeg))) rfl ?_
            refine am_iload_n dX5_findSure_175 rfl ?_
            refine am_lconst dX5_findSure_176 lc_0 ?_
            obtain ⟨g49, h39⟩ := am_grd h39
            obtain ⟨M50, eM50, h39⟩ := am_letE h39
            refine am_lastore dX5_findSure_177 sh_730 hk_730 (am_inbE g49) ?_
            refine am_mem eM50 ?_
            obtain rfl := Option.some.inj h39
            exact am_drop [0, 1, 2, 3] rfl KK40
          · replace h39 := am_ifT b63 h39
            refine am_iload_n dX5_findSure_131 rfl ?_
            refine am_if_eq 178 dX5_findSure_132 rfl (fun b62 => ?_) (fun b62 => ?_)
            · replace h39 := am_ifT b62 h39
              obtain rfl := Option.some.inj h39
              exact am_drop [0, 1, 2, 3] rfl KK40
            · replace h39 := am_ifF b62 h39
              refine am_iload_n dX5_findSure_135 rfl ?_
              refine am_aload_n dX5_findSure_136 rfl ?_
              refine am_getI dX5_findSure_137 fl_RX5_254 sh_5 rfl hk_5 ?_
              refine am_icmp_ne 178 dX5_findSure_140 rfl (fun b61 => ?_) (fun b61 => ?_)
              · replace h39 := am_ifF b61 h39
                obtain rfl := Option.some.inj h39
                exact am_drop [0, 1, 2, 3] rfl KK40
              · replace h39 := am_ifT b61 h39
                refine am_aload_n dX5_findSure_143 rfl ?_
                refine am_getR (o' := o0a) dX5_findSure_144 fl_RX5_81 sh_5 rfl rfl hk_5 ?_
                refine am_iload_n dX5_findSure_147 rfl ?_
                refine am_dup2 dX5_findSure_148 rfl rfl ?_
                obtain ⟨g51, h39⟩ := am_grd h39
                refine am_laload dX5_findSure_149 sh_634 hk_634 (am_inbE g51) ?_
                refine am_aload_n dX5_findSure_150 rfl ?_
                refine am_getR (o' := o0a) dX5_findSure_151 fl_RX5_69 sh_5 rfl rfl hk_5 ?_
                refine am_iload_n dX5_findSure_154 rfl ?_
                obtain ⟨g52, h39⟩ := am_grd h39
                refine am_aaload dX5_findSure_155 sh_630 rfl rfl hk_630 (am_inbE g52) ?_
                refine am_top (w := .inr (.inr (730, o0a, a2.toNatClampNeg))) rfl ?_
                refine am_iload_n dX5_findSure_156 rfl ?_
                obtain ⟨g53, h39⟩ := am_grd h39
                refine am_laload dX5_findSure_157 sh_730 hk_730 (am_inbE g53) ?_
                refine am_aload_n dX5_findSure_158 rfl ?_
                refine am_getR (o' := o0a) dX5_findSure_159 fl_RX5_72 sh_5 rfl rfl hk_5 ?_
                refine am_iload_n dX5_findSure_162 rfl ?_
                obtain ⟨g54, h39⟩ := am_grd h39
                refine am_aaload dX5_findSure_163 sh_631 rfl rfl hk_631 (am_inbE g54) ?_
                refine am_top (w := .inr (.inr (731, o0a, a2.toNatClampNeg))) rfl ?_
                refine am_iload_n dX5_findSure_164 rfl ?_
                obtain ⟨g55, h39⟩ := am_grd h39
                refine am_laload dX5_findSure_165 sh_731 hk_731 (am_inbE g55) ?_
                refine am_lmul dX5_findSure_166 ?_
                refine am_ladd dX5_findSure_167 ?_
                obtain ⟨g56, h39⟩ := am_grd h39
                obtain ⟨M57, eM57, h39⟩ := am_letE h39
                refine am_lastore dX5_findSure_168 sh_634 hk_634 (am_inbE g56) ?_
                refine am_mem eM57 ?_
                refine am_aload_n dX5_findSure_169 rfl ?_
                refine am_getR (o' := o0a) dX5_findSure_170 fl_RX5_69 sh_5 rfl rfl hk_5 ?_
                refine am_iload_n dX5_findSure_173 rfl ?_
                obtain ⟨g58, h39⟩ := am_grd h39
                refine am_aaload dX5_findSure_174 sh_630 rfl rfl hk_630 (am_inbE g58) ?_
                refine am_top (w := .inr (.inr (730, o0a, a2.toNatClampNeg))) rfl ?_
                refine am_iload_n dX5_findSure_175 rfl ?_
                refine am_lconst dX5_findSure_176 lc_0 ?_
                obtain ⟨g59, h39⟩ := am_grd h39
                obtain ⟨M60, eM60, h39⟩ := am_letE h39
                refine am_lastore dX5_findSure_177 sh_730 hk_730 (am_inbE g59) ?_
                refine am_mem eM60 ?_
                obtain rfl := Option.some.inj h39
                exact am_drop [0, 1, 2, 3] rfl KK40
        clear h
        refine am_if_eq 120 dX5_findSure_112 rfl (fun b33 => ?_) (fun b33 => ?_)
        · replace h31 := am_ifT b33 h31
          refine am_lconst dX5_findSure_120 lc_0 ?_
          obtain rfl := Option.some.inj h31
          exact am_drop [0, 1, 2, 3] rfl KK32
        · replace h31 := am_ifF b33 h31
          refine am_lload dX5_findSure_115 rfl ?_
          refine am_goto 121 dX5_findSure_117 rfl ?_
          obtain rfl := Option.some.inj h31
          exact am_drop [0, 1, 2, 3] rfl KK32
      clear h
      refine am_if_ne 55 dX5_findSure_48 rfl (fun b26 => ?_) (fun b26 => ?_)
      · replace h12 := am_ifF b26 h12
        refine am_iload_n dX5_findSure_55 rfl ?_
        obtain ⟨z14, h15, h12⟩ := am_bnd h12
        have KK16 : am_W K (d + 1) m_X5_findSure 75 [(0, .inr (.inr (5, o0a, 0))), (1, .inl a1), (2, .inl a2), (3, .inl a3)] [.inr (.inl z14)] M post := by
          refine am_iload_n dX5_findSure_75 rfl ?_
          refine am_iload_n dX5_findSure_76 rfl ?_
          obtain ⟨z20, h21, h12⟩ := am_bnd h12
          have KK22 : am_W K (d + 1) m_X5_findSure 94 [(0, .inr (.inr (5, o0a, 0))), (1, .inl a1), (2, .inl a2), (3, .inl a3)] [.inr (.inl z20), .inr (.inl z14)] M post := by
            refine am_ladd dX5_findSure_94 ?_
            obtain rfl := Option.some.inj h12
            exact am_drop [0, 1, 2, 3] rfl KK13
          clear h12
          refine am_icmp_ge 93 dX5_findSure_77 rfl (fun b25 => ?_) (fun b25 => ?_)
          · replace h21 := am_ifT b25 h21
            refine am_lconst dX5_findSure_93 lc_0 ?_
            obtain rfl := Option.some.inj h21
            exact am_drop [0, 1, 2, 3] rfl KK22
          · replace h21 := am_ifF b25 h21
            refine am_aload_n dX5_findSure_80 rfl ?_
            refine am_getR (o' := o0a) dX5_findSure_81 fl_RX5_69 sh_5 rfl rfl hk_5 ?_
            refine am_iload_n dX5_findSure_84 rfl ?_
            refine am_iconst dX5_findSure_85 ic_1 ?_
            refine am_isub dX5_findSure_86 ?_
            obtain ⟨g23, h21⟩ := am_grd h21
            refine am_aaload dX5_findSure_87 sh_630 rfl rfl hk_630 (am_inbE g23) ?_
            refine am_top (w := .inr (.inr (730, o0a, (a2 - (1 : Int32)).toNatClampNeg))) rfl ?_
            refine am_iload_n dX5_findSure_88 rfl ?_
            obtain ⟨g24, h21⟩ := am_grd h21
            refine am_laload dX5_findSure_89 sh_730 hk_730 (am_inbE g24) ?_
            refine am_goto 94 dX5_findSure_90 rfl ?_
            obtain rfl := Option.some.inj h21
            exact am_drop [0, 1, 2, 3] rfl KK22
        clear h12
        refine am_if_le 74 dX5_findSure_56 rfl (fun b19 => ?_) (fun b19 => ?_)
        · replace h15 := am_ifT b19 h15
          refine am_lconst dX5_findSure_74 lc_0 ?_
          obtain rfl := Option.some.inj h15
          exact am_drop [0, 1, 2, 3] rfl KK16
        · replace h15 := am_ifF b19 h15
          refine am_aload_n dX5_findSure_59 rfl ?_
          refine am_getR (o' := o0a) dX5_findSure_60 fl_RX5_69 sh_5 rfl rfl hk_5 ?_
          refine am_iload_n dX5_findSure_63 rfl ?_
          refine am_iconst dX5_findSure_64 ic_1 ?_
          refine am_isub dX5_findSure_65 ?_
          obtain ⟨g17, h15⟩ := am_grd h15
          refine am_aaload dX5_findSure_66 sh_630 rfl rfl hk_630 (am_inbE g17) ?_
          refine am_top (w := .inr (.inr (730, o0a, (a2 - (1 : Int32)).toNatClampNeg))) rfl ?_
          refine am_iload_n dX5_findSure_67 rfl ?_
          refine am_iconst dX5_findSure_68 ic_1 ?_
          refine am_isub dX5_findSure_69 ?_
          obtain ⟨g18, h15⟩ := am_grd h15
          refine am_laload dX5_findSure_70 sh_730 hk_730 (am_inbE g18) ?_
          refine am_goto 75 dX5_findSure_71 rfl ?_
          obtain rfl := Option.some.inj h15
          exact am_drop [0, 1, 2, 3] rfl KK16
      · replace h12 := am_ifT b26 h12
        refine am_lconst dX5_findSure_51 lc_1 ?_
        refine am_goto 95 dX5_findSure_52 rfl ?_
        obtain rfl := Option.some.inj h12
        exact am_drop [0, 1, 2, 3] rfl KK13
def l_X5_findSure_25 (o0a : Nat) (a1 : Int32) : Nat → Int32 → am_M → Option (am_M)
  | 0, _, _ => none
  | n + 1, a2, M => (if (M.1 5 o0a 0 29) < a2 then some M else if am_inb a2 25 = true then am_let (am_sl M 634 o0a 0 a2.toNatClampNeg (0 : Int64)) (fun M10 => (l_X5_findSure_42 o0a a1 a2 1000 (0 : Int32) M10).bind (fun z66 => am_let (a2 + (1 : Int32)) (fun v69 => l_X5_findSure_25 o0a a1 n v69 z66))) else none)
set_option maxHeartbeats 4000000 in
theorem wl_X5_findSure_25 {K : am_K} {d : Nat} {post : Option am_V → am_M → Prop} {o0a : Nat} {a1 : Int32} : ∀ (n : Nat) (a2 : Int32) (M : am_M) (x : am_M), l_X5_findSure_25 o0a a1 n a2 M = some x → am_W K (d + 1) m_X5_findSure 190 [] [] x post → am_W K (d + 1) m_X5_findSure 25 [(0, .inr (.inr (5, o0a, 0))), (1, .inl a1), (2, .inl a2)] [] M post := by
  intro n
  induction n with
  | zero => intro a2 M x h KX; cases h
  | succ n ih =>
    intro a2 M x h KX
    rw [l_X5_findSure_25] at h
    refine am_iload_n dX5_findSure_25 rfl ?_
    refine am_aload_n dX5_findSure_26 rfl ?_
    refine am_getI dX5_findSure_27 fl_RX5_254 sh_5 rfl hk_5 ?_
    refine am_icmp_gt 190 dX5_findSure_30 rfl (fun b70 => ?_) (fun b70 => ?_)
    · replace h := am_ifT b70 h
      obtain rfl := Option.some.inj h
      exact am_drop [] rfl KX
    · replace h := am_ifF b70 h
      refine am_aload_n dX5_findSure_33 rfl ?_
      refine am_getR (o' := o0a) dX5_findSure_34 fl_RX5_81 sh_5 rfl rfl hk_5 ?_
      refine am_iload_n dX5_findSure_37 rfl ?_
      refine am_lconst dX5_findSure_38 lc_0 ?_
      obtain ⟨g9, h⟩ := am_grd h
      obtain ⟨M10, eM10, h⟩ := am_letE h
      refine am_lastore dX5_findSure_39 sh_634 hk_634 (am_inbE g9) ?_
      refine am_mem eM10 ?_
      refine am_iconst dX5_findSure_40 ic_0 ?_
      refine am_istore_n (ls' := [(0, .inr (.inr (5, o0a, 0))), (1, .inl a1), (2, .inl a2), (3, .inl (0 : Int32))]) dX5_findSure_41 (Nat.le_of_ble_eq_true rfl) rfl ?_
      obtain ⟨z66, h67, h⟩ := am_bnd h
      have KK68 : am_W K (d + 1) m_X5_findSure 184 [(0, .inr (.inr (5, o0a, 0))), (1, .inl a1), (2, .inl a2)] [] z66 post := by
        obtain ⟨v69, ev69, h⟩ := am_letE h
        refine am_iinc (ls' := [(0, .inr (.inr (5, o0a, 0))), (1, .inl a1), (2, .inl v69)]) dX5_findSure_184 rfl ((congrArg (fun z => a2 + z) ic_1).trans ev69.symm) (Nat.le_of_ble_eq_true rfl) rfl ?_
        refine am_goto 25 dX5_findSure_187 rfl ?_
        exact am_drop [0, 1, 2] rfl (ih _ _ _ h KX)
      exact am_drop [0, 1, 2, 3] rfl (wl_X5_findSure_42 _ _ _ _ h67 KK68)
def f_X5_findSure (M : am_M) (o : Nat) : Option (am_M) :=
  (f_X5_allA M o).bind (fun r2 => ((if ((2 : Int32) * r2) = (M.1 5 o 0 29) then some (1 : Int32) else some (0 : Int32)) : Option (Int32)).bind (fun z3 => (f_X5_countBack M o).bind (fun r8 => (l_X5_findSure_25 o z3 1000 (0 : Int32) r8).bind (fun z71 => some z71))))
set_option maxHeartbeats 4000000 in
theorem w_X5_findSure {K : am_K} {d : Nat} {post : Option am_V → am_M → Prop} {M : am_M} {o : Nat} {y : am_M} (h : f_X5_findSure M o = some y) (hp : post none y) : am_W K (d + 1) m_X5_findSure 0 [(0, .inr (.inr (5, o, 0)))] [] M post := by
  unfold f_X5_findSure at h
  refine am_iconst dX5_findSure_0 ic_2 ?_
  refine am_aload_n dX5_findSure_1 rfl ?_
  obtain ⟨r2, c1, h⟩ := am_bnd h
  refine am_callVi (as := []) dX5_findSure_2 cv_RX5_133 cb_X5_allA sh_5 rfl hk_5 rfl rfl (Nat.le_of_ble_eq_true rfl) (c_X5_allA c1) ?_
  refine am_imul dX5_findSure_5 ?_
  refine am_aload_n dX5_findSure_6 rfl ?_
  refine am_getI dX5_findSure_7 fl_RX5_254 sh_5 rfl hk_5 ?_
  obtain ⟨z3, h4, h⟩ := am_bnd h
  have KK5 : am_W K (d + 1) m_X5_findSure 18 [(0, .inr (.inr (5, o, 0)))] [.inl z3] M post := by
    refine am_istore_n (ls' := [(0, .inr (.inr (5, o, 0))), (1, .inl z3)]) dX5_findSure_18 (Nat.le_of_ble_eq_true rfl) rfl ?_
    refine am_aload_n dX5_findSure_19 rfl ?_
    obtain ⟨r8, c7, h⟩ := am_bnd h
    refine am_callVv (as := []) dX5_findSure_20 cv_RX5_304 cb_X5_countBack sh_5 rfl hk_5 rfl rfl (Nat.le_of_ble_eq_true rfl) (c_X5_countBack c7) ?_
    refine am_iconst dX5_findSure_23 ic_0 ?_
    refine am_istore_n (ls' := [(0, .inr (.inr (5, o, 0))), (1, .inl z3), (2, .inl (0 : Int32))]) dX5_findSure_24 (Nat.le_of_ble_eq_true rfl) rfl ?_
    obtain ⟨z71, h72, h⟩ := am_bnd h
    have KK73 : am_W K (d + 1) m_X5_findSure 190 [] [] z71 post := by
      obtain rfl := Option.some.inj h
      exact am_return dX5_findSure_190 rfl hp
    exact am_drop [0, 1, 2] rfl (wl_X5_findSure_25 _ _ _ _ h72 KK73)
  clear h
  refine am_icmp_ne 17 dX5_findSure_10 rfl (fun b6 => ?_) (fun b6 => ?_)
  · replace h4 := am_ifF b6 h4
    refine am_iconst dX5_findSure_17 ic_0 ?_
    obtain rfl := Option.some.inj h4
    exact am_drop [0] rfl KK5
  · replace h4 := am_ifT b6 h4
    refine am_iconst dX5_findSure_13 ic_1 ?_
    refine am_goto 18 dX5_findSure_14 rfl ?_
    obtain rfl := Option.some.inj h4
    exact am_drop [0] rfl KK5
theorem c_X5_findSure {K : am_K} {d : Nat} {M : am_M} {o : Nat} {y : am_M} (h : f_X5_findSure M o = some y) : am_Met K (d + 1) m_X5_findSure [.inr (.inr (5, o, 0))] M (fun q N => q = none ∧ N = y) :=
  am_Met_of cb_X5_findSure (Nat.le_of_ble_eq_true rfl) (w_X5_findSure h ⟨rfl, rfl⟩)
def f_X5_sure (M : am_M) (o : Nat) (x1 : Int32) : Option (Int32 × am_M) :=
  (f_X5_in M x1.toInt64 (0 : Int64) (24 : Int64)).bind (fun r2 => (if r2 = 0 then (f_X5_refuse M o (-2 : Int32)).bind (fun r10 => some (r10.1, r10.2)) else (f_X5_seeAll M o).bind (fun r4 => (f_X5_findSure r4 o).bind (fun r6 => (if x1 ≤ (r6.1 5 o 0 29) then if am_inb x1 25 = true then some ((r6.2 634 o 0 x1.toNatClampNeg).toInt32, r6) else none else some ((0 : Int32), r6))))))
set_option maxHeartbeats 4000000 in
theorem w_X5_sure {K : am_K} {d : Nat} {post : Option am_V → am_M → Prop} {M : am_M} {o : Nat} {x1 : Int32} {y : Int32 × am_M} (h : f_X5_sure M o x1 = some y) (hp : post (some (.inl y.1)) y.2) : am_W K (d + 4) m_X5_sure 0 [(0, .inr (.inr (5, o, 0))), (1, .inl x1)] [] M post := by
  unfold f_X5_sure at h
  refine am_iload_n dX5_sure_0 rfl ?_
  refine am_i2l dX5_sure_1 ?_
  refine am_lconst dX5_sure_2 lc_0 ?_
  refine am_ldc2 dX5_sure_3 kc_RX5_149 ?_
  obtain ⟨r2, c1, h⟩ := am_bnd h
  refine am_callSi (as := [.inr (.inl x1.toInt64), .inr (.inl (0 : Int64)), .inr (.inl (24 : Int64))]) dX5_sure_6 cs_RX5_95 cb_X5_in rfl rfl (Nat.le_of_ble_eq_true rfl) (c_X5_in c1) ?_
  refine am_if_ne 19 dX5_sure_9 rfl (fun b11 => ?_) (fun b11 => ?_)
  · replace h := am_ifF b11 h
    refine am_aload_n dX5_sure_19 rfl ?_
    obtain ⟨r4, c3, h⟩ := am_bnd h
    refine am_callVv (as := []) dX5_sure_20 cv_RX5_276 cb_X5_seeAll sh_5 rfl hk_5 rfl rfl (Nat.le_of_ble_eq_true rfl) (c_X5_seeAll c3) ?_
    refine am_aload_n dX5_sure_23 rfl ?_
    obtain ⟨r6, c5, h⟩ := am_bnd h
    refine am_callVv (as := []) dX5_sure_24 cv_RX5_310 cb_X5_findSure sh_5 rfl hk_5 rfl rfl (Nat.le_of_ble_eq_true rfl) (c_X5_findSure c5) ?_
    refine am_iload_n dX5_sure_27 rfl ?_
    refine am_aload_n dX5_sure_28 rfl ?_
    refine am_getI dX5_sure_29 fl_RX5_254 sh_5 rfl hk_5 ?_
    refine am_icmp_le 39 dX5_sure_32 rfl (fun b8 => ?_) (fun b8 => ?_)
    · replace h := am_ifT b8 h
      refine am_aload_n dX5_sure_39 rfl ?_
      refine am_getR (o' := o) dX5_sure_40 fl_RX5_81 sh_5 rfl rfl hk_5 ?_
      refine am_iload_n dX5_sure_43 rfl ?_
      obtain ⟨g7, h⟩ := am_grd h
      refine am_laload dX5_sure_44 sh_634 hk_634 (am_inbE g7) ?_
      refine am_l2i dX5_sure_45 ?_
      obtain rfl := Option.some.inj h
      exact am_ireturn dX5_sure_46 rfl rfl hp
    · replace h := am_ifF b8 h
      refine am_iconst dX5_sure_35 ic_0 ?_
      refine am_goto 46 dX5_sure_36 rfl ?_
      obtain rfl := Option.some.inj h
      exact am_ireturn dX5_sure_46 rfl rfl hp
  · replace h := am_ifT b11 h
    refine am_aload_n dX5_sure_12 rfl ?_
    refine am_bipush dX5_sure_13 bp_m2 ?_
    obtain ⟨r10, c9, h⟩ := am_bnd h
    refine am_callVi (as := [.inl (-2 : Int32)]) dX5_sure_15 cv_RX5_103 cb_X5_refuse sh_5 rfl hk_5 rfl rfl (Nat.le_of_ble_eq_true rfl) (c_X5_refuse c9) ?_
    obtain rfl := Option.some.inj h
    exact am_ireturn dX5_sure_18 rfl rfl hp
theorem c_X5_sure {K : am_K} {d : Nat} {M : am_M} {o : Nat} {x1 : Int32} {y : Int32 × am_M} (h : f_X5_sure M o x1 = some y) : am_Met K (d + 4) m_X5_sure [.inr (.inr (5, o, 0)), .inl x1] M (fun q N => q = some (.inl y.1) ∧ N = y.2) :=
  am_Met_of cb_X5_sure (Nat.le_of_ble_eq_true rfl) (w_X5_sure h ⟨rfl, rfl⟩)
def f_X5_soFar (M : am_M) (o : Nat) (x1 : Int32) (x2 : Int32) : Option (Int32 × am_M) :=
  (f_X5_in M x1.toInt64 (0 : Int64) (24 : Int64)).bind (fun r2 => (if r2 = 0 then (f_X5_refuse M o (-2 : Int32)).bind (fun r4 => some (r4.1, r4.2)) else (f_X5_in M x2.toInt64 (0 : Int64) (24 : Int64)).bind (fun r6 => (if r6 = 0 then (f_X5_refuse M o (-2 : Int32)).bind (fun r18 => some (r18.1, r18.2)) else (f_X5_seeAll M o).bind (fun r8 => (f_X5_count r8 o (0 : Int32) (0 : Int32)).bind (fun r10 => (f_X5_countBack r10.2 o).bind (fun r12 => (if (r12.1 5 o 0 29) < x1 then some ((0 : Int32), r12) else (if x2 ≤ x1 then (f_X5_through r12 o x1 x2).bind (fun r14 => some (r14.toInt32, r12)) else some ((0 : Int32), r12))))))))))
set_option maxHeartbeats 4000000 in
theorem w_X5_soFar {K : am_K} {d : Nat} {post : Option am_V → am_M → Prop} {M : am_M} {o : Nat} {x1 : Int32} {x2 : Int32} {y : Int32 × am_M} (h : f_X5_soFar M o x1 x2 = some y) (hp : post (some (.inl y.1)) y.2) : am_W K (d + 4) m_X5_soFar 0 [(0, .inr (.inr (5, o, 0))), (1, .inl x1), (2, .inl x2)] [] M post := by
  unfold f_X5_soFar at h
  refine am_iload_n dX5_soFar_0 rfl ?_
  refine am_i2l dX5_soFar_1 ?_
  refine am_lconst dX5_soFar_2 lc_0 ?_
  refine am_ldc2 dX5_soFar_3 kc_RX5_149 ?_
  obtain ⟨r2, c1, h⟩ := am_bnd h
  refine am_callSi (as := [.inr (.inl x1.toInt64), .inr (.inl (0 : Int64)), .inr (.inl (24 : Int64))]) dX5_soFar_6 cs_RX5_95 cb_X5_in rfl rfl (Nat.le_of_ble_eq_true rfl) (c_X5_in c1) ?_
  refine am_if_eq 24 dX5_soFar_9 rfl (fun b20 => ?_) (fun b20 => ?_)
  · replace h := am_ifT b20 h
    refine am_aload_n dX5_soFar_24 rfl ?_
    refine am_bipush dX5_soFar_25 bp_m2 ?_
    obtain ⟨r4, c3, h⟩ := am_bnd h
    refine am_callVi (as := [.inl (-2 : Int32)]) dX5_soFar_27 cv_RX5_103 cb_X5_refuse sh_5 rfl hk_5 rfl rfl (Nat.le_of_ble_eq_true rfl) (c_X5_refuse c3) ?_
    obtain rfl := Option.some.inj h
    exact am_ireturn dX5_soFar_30 rfl rfl hp
  · replace h := am_ifF b20 h
    refine am_iload_n dX5_soFar_12 rfl ?_
    refine am_i2l dX5_soFar_13 ?_
    refine am_lconst dX5_soFar_14 lc_0 ?_
    refine am_ldc2 dX5_soFar_15 kc_RX5_149 ?_
    obtain ⟨r6, c5, h⟩ := am_bnd h
    refine am_callSi (as := [.inr (.inl x2.toInt64), .inr (.inl (0 : Int64)), .inr (.inl (24 : Int64))]) dX5_soFar_18 cs_RX5_95 cb_X5_in rfl rfl (Nat.le_of_ble_eq_true rfl) (c_X5_in c5) ?_
    refine am_if_ne 31 dX5_soFar_21 rfl (fun b19 => ?_) (fun b19 => ?_)
    · replace h := am_ifF b19 h
      refine am_aload_n dX5_soFar_31 rfl ?_
      obtain ⟨r8, c7, h⟩ := am_bnd h
      refine am_callVv (as := []) dX5_soFar_32 cv_RX5_276 cb_X5_seeAll sh_5 rfl hk_5 rfl rfl (Nat.le_of_ble_eq_true rfl) (c_X5_seeAll c7) ?_
      refine am_aload_n dX5_soFar_35 rfl ?_
      refine am_iconst dX5_soFar_36 ic_0 ?_
      refine am_iconst dX5_soFar_37 ic_0 ?_
      obtain ⟨r10, c9, h⟩ := am_bnd h
      refine am_callVl (as := [.inl (0 : Int32), .inl (0 : Int32)]) dX5_soFar_38 cv_RX5_273 cb_X5_count sh_5 rfl hk_5 rfl rfl (Nat.le_of_ble_eq_true rfl) (c_X5_count c9) ?_
      refine am_pop2 dX5_soFar_41 rfl ?_
      refine am_aload_n dX5_soFar_42 rfl ?_
      obtain ⟨r12, c11, h⟩ := am_bnd h
      refine am_callVv (as := []) dX5_soFar_43 cv_RX5_304 cb_X5_countBack sh_5 rfl hk_5 rfl rfl (Nat.le_of_ble_eq_true rfl) (c_X5_countBack c11) ?_
      refine am_iload_n dX5_soFar_46 rfl ?_
      refine am_aload_n dX5_soFar_47 rfl ?_
      refine am_getI dX5_soFar_48 fl_RX5_254 sh_5 rfl hk_5 ?_
      refine am_icmp_gt 59 dX5_soFar_51 rfl (fun b16 => ?_) (fun b16 => ?_)
      · replace h := am_ifT b16 h
        refine am_iconst dX5_soFar_59 ic_0 ?_
        refine am_goto 70 dX5_soFar_60 rfl ?_
        obtain rfl := Option.some.inj h
        exact am_ireturn dX5_soFar_70 rfl rfl hp
      · replace h := am_ifF b16 h
        refine am_iload_n dX5_soFar_54 rfl ?_
        refine am_iload_n dX5_soFar_55 rfl ?_
        refine am_icmp_le 63 dX5_soFar_56 rfl (fun b15 => ?_) (fun b15 => ?_)
        · replace h := am_ifT b15 h
          refine am_aload_n dX5_soFar_63 rfl ?_
          refine am_iload_n dX5_soFar_64 rfl ?_
          refine am_iload_n dX5_soFar_65 rfl ?_
          obtain ⟨r14, c13, h⟩ := am_bnd h
          refine am_callVl (as := [.inl x1, .inl x2]) dX5_soFar_66 cv_RX5_313 cb_X5_through sh_5 rfl hk_5 rfl rfl (Nat.le_of_ble_eq_true rfl) (c_X5_through c13) ?_
          refine am_l2i dX5_soFar_69 ?_
          obtain rfl := Option.some.inj h
          exact am_ireturn dX5_soFar_70 rfl rfl hp
        · replace h := am_ifF b15 h
          refine am_iconst dX5_soFar_59 ic_0 ?_
          refine am_goto 70 dX5_soFar_60 rfl ?_
          obtain rfl := Option.some.inj h
          exact am_ireturn dX5_soFar_70 rfl rfl hp
    · replace h := am_ifT b19 h
      refine am_aload_n dX5_soFar_24 rfl ?_
      refine am_bipush dX5_soFar_25 bp_m2 ?_
      obtain ⟨r18, c17, h⟩ := am_bnd h
      refine am_callVi (as := [.inl (-2 : Int32)]) dX5_soFar_27 cv_RX5_103 cb_X5_refuse sh_5 rfl hk_5 rfl rfl (Nat.le_of_ble_eq_true rfl) (c_X5_refuse c17) ?_
      obtain rfl := Option.some.inj h
      exact am_ireturn dX5_soFar_30 rfl rfl hp
theorem c_X5_soFar {K : am_K} {d : Nat} {M : am_M} {o : Nat} {x1 : Int32} {x2 : Int32} {y : Int32 × am_M} (h : f_X5_soFar M o x1 x2 = some y) : am_Met K (d + 4) m_X5_soFar [.inr (.inr (5, o, 0)), .inl x1, .inl x2] M (fun q N => q = some (.inl y.1) ∧ N = y.2) :=
  am_Met_of cb_X5_soFar (Nat.le_of_ble_eq_true rfl) (w_X5_soFar h ⟨rfl, rfl⟩)
