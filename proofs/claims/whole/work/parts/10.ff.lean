def f_X4_draw (M : am_M)  : Option (Int32 × am_M) :=
  (if (M.1 1 0 0 6) < (M.1 1 0 0 1) then (f_X1_takeByDraw M 0).bind (fun r2 => some (r2.1, r2.2)) else (f_X4_refuse M (-5 : Int32)).bind (fun r4 => some (r4.1, r4.2)))
set_option maxHeartbeats 4000000 in
theorem w_X4_draw {K : am_K} {d : Nat} {post : Option am_V → am_M → Prop} {M : am_M}  {y : Int32 × am_M} (h : f_X4_draw M  = some y) (hp : post (some (.inl y.1)) y.2) : am_W K (d + 4) m_X4_draw 0 [(0, .inr (.inr (4, 0, 0)))] [] M post := by
  unfold f_X4_draw at h
  refine am_aload_n dX4_draw_0 rfl ?_
  refine am_getR (o' := 0) dX4_draw_1 fl_RX4_12 sh_4 rfl rfl hk_4 ?_
  refine am_getI dX4_draw_4 fl_RX4_120 sh_1 rfl hk_1 ?_
  refine am_aload_n dX4_draw_7 rfl ?_
  refine am_getR (o' := 0) dX4_draw_8 fl_RX4_12 sh_4 rfl rfl hk_4 ?_
  refine am_getI dX4_draw_11 fl_RX4_282 sh_1 rfl hk_1 ?_
  refine am_icmp_lt 24 dX4_draw_14 rfl (fun b5 => ?_) (fun b5 => ?_)
  · replace h := am_ifT b5 h
    refine am_aload_n dX4_draw_24 rfl ?_
    refine am_getR (o' := 0) dX4_draw_25 fl_RX4_12 sh_4 rfl rfl hk_4 ?_
    obtain ⟨r2, c1, h⟩ := am_bnd h
    refine am_callVi (as := []) dX4_draw_28 cv_RX4_304 cb_X1_takeByDraw sh_1 rfl hk_1 rfl rfl (Nat.le_of_ble_eq_true rfl) (c_X1_takeByDraw c1) ?_
    obtain rfl := Option.some.inj h
    exact am_ireturn dX4_draw_31 rfl rfl hp
  · replace h := am_ifF b5 h
    refine am_aload_n dX4_draw_17 rfl ?_
    refine am_bipush dX4_draw_18 bp_m5 ?_
    obtain ⟨r4, c3, h⟩ := am_bnd h
    refine am_callVi (as := [.inl (-5 : Int32)]) dX4_draw_20 cv_RX4_58 cb_X4_refuse sh_4 rfl hk_4 rfl rfl (Nat.le_of_ble_eq_true rfl) (c_X4_refuse c3) ?_
    obtain rfl := Option.some.inj h
    exact am_ireturn dX4_draw_23 rfl rfl hp
theorem c_X4_draw {K : am_K} {d : Nat} {M : am_M}  {y : Int32 × am_M} (h : f_X4_draw M  = some y) : am_Met K (d + 4) m_X4_draw [.inr (.inr (4, 0, 0))] M (fun q N => q = some (.inl y.1) ∧ N = y.2) :=
  am_Met_of cb_X4_draw (Nat.le_of_ble_eq_true rfl) (w_X4_draw h ⟨rfl, rfl⟩)
def l_X4_evening_18 (a1 : Int32) : Nat → Int32 → am_M → Option (am_M)
  | 0, _, _ => none
  | n + 1, a2, M => (if a1 ≤ a2 then some M else (f_X1_takeByDraw M 0).bind (fun r3 => am_let (a2 + (1 : Int32)) (fun v4 => l_X4_evening_18 a1 n v4 r3.2)))
set_option maxHeartbeats 4000000 in
theorem wl_X4_evening_18 {K : am_K} {d : Nat} {post : Option am_V → am_M → Prop} {a1 : Int32} : ∀ (n : Nat) (a2 : Int32) (M : am_M) (x : am_M), l_X4_evening_18 a1 n a2 M = some x → am_W K (d + 4) m_X4_evening 37 [(0, .inr (.inr (4, 0, 0)))] [] x post → am_W K (d + 4) m_X4_evening 18 [(0, .inr (.inr (4, 0, 0))), (1, .inl a1), (2, .inl a2)] [] M post := by
  intro n
  induction n with
  | zero => intro a2 M x h KX; cases h
  | succ n ih =>
    intro a2 M x h KX
    rw [l_X4_evening_18] at h
    refine am_iload_n dX4_evening_18 rfl ?_
    refine am_iload_n dX4_evening_19 rfl ?_
    refine am_icmp_ge 37 dX4_evening_20 rfl (fun b5 => ?_) (fun b5 => ?_)
    · replace h := am_ifT b5 h
      obtain rfl := Option.some.inj h
      exact am_drop [0] rfl KX
    · replace h := am_ifF b5 h
      refine am_aload_n dX4_evening_23 rfl ?_
      refine am_getR (o' := 0) dX4_evening_24 fl_RX4_12 sh_4 rfl rfl hk_4 ?_
      obtain ⟨r3, c2, h⟩ := am_bnd h
      refine am_callVi (as := []) dX4_evening_27 cv_RX4_304 cb_X1_takeByDraw sh_1 rfl hk_1 rfl rfl (Nat.le_of_ble_eq_true rfl) (c_X1_takeByDraw c2) ?_
      refine am_pop dX4_evening_30 rfl ?_
      obtain ⟨v4, ev4, h⟩ := am_letE h
      refine am_iinc (ls' := [(0, .inr (.inr (4, 0, 0))), (1, .inl a1), (2, .inl v4)]) dX4_evening_31 rfl ((congrArg (fun z => a2 + z) ic_1).trans ev4.symm) (Nat.le_of_ble_eq_true rfl) rfl ?_
      refine am_goto 18 dX4_evening_34 rfl ?_
      exact am_drop [0, 1, 2] rfl (ih _ _ _ h KX)
def f_X4_evening (M : am_M)  : Option (Int32 × am_M) :=
  am_let ((M.1 1 0 0 1) - (M.1 1 0 0 6)) (fun v1 => (l_X4_evening_18 v1 1000 (0 : Int32) M).bind (fun z6 => (f_X1_momentsAhead z6 0).bind (fun r10 => some (r10, z6))))
set_option maxHeartbeats 4000000 in
theorem w_X4_evening {K : am_K} {d : Nat} {post : Option am_V → am_M → Prop} {M : am_M}  {y : Int32 × am_M} (h : f_X4_evening M  = some y) (hp : post (some (.inl y.1)) y.2) : am_W K (d + 4) m_X4_evening 0 [(0, .inr (.inr (4, 0, 0)))] [] M post := by
  unfold f_X4_evening at h
  refine am_aload_n dX4_evening_0 rfl ?_
  refine am_getR (o' := 0) dX4_evening_1 fl_RX4_12 sh_4 rfl rfl hk_4 ?_
  refine am_getI dX4_evening_4 fl_RX4_282 sh_1 rfl hk_1 ?_
  refine am_aload_n dX4_evening_7 rfl ?_
  refine am_getR (o' := 0) dX4_evening_8 fl_RX4_12 sh_4 rfl rfl hk_4 ?_
  refine am_getI dX4_evening_11 fl_RX4_120 sh_1 rfl hk_1 ?_
  refine am_isub dX4_evening_14 ?_
  obtain ⟨v1, ev1, h⟩ := am_letE h
  refine am_topI ev1 ?_
  refine am_istore_n (ls' := [(0, .inr (.inr (4, 0, 0))), (1, .inl v1)]) dX4_evening_15 (Nat.le_of_ble_eq_true rfl) rfl ?_
  refine am_iconst dX4_evening_16 ic_0 ?_
  refine am_istore_n (ls' := [(0, .inr (.inr (4, 0, 0))), (1, .inl v1), (2, .inl (0 : Int32))]) dX4_evening_17 (Nat.le_of_ble_eq_true rfl) rfl ?_
  obtain ⟨z6, h7, h⟩ := am_bnd h
  have KK8 : am_W K (d + 4) m_X4_evening 37 [(0, .inr (.inr (4, 0, 0)))] [] z6 post := by
    refine am_aload_n dX4_evening_37 rfl ?_
    refine am_getR (o' := 0) dX4_evening_38 fl_RX4_12 sh_4 rfl rfl hk_4 ?_
    obtain ⟨r10, c9, h⟩ := am_bnd h
    refine am_callVi (as := []) dX4_evening_41 cv_RX4_307 cb_X1_momentsAhead sh_1 rfl hk_1 rfl rfl (Nat.le_of_ble_eq_true rfl) (c_X1_momentsAhead c9) ?_
    obtain rfl := Option.some.inj h
    exact am_ireturn dX4_evening_44 rfl rfl hp
  exact am_drop [0, 1, 2] rfl (wl_X4_evening_18 _ _ _ _ h7 KK8)
theorem c_X4_evening {K : am_K} {d : Nat} {M : am_M}  {y : Int32 × am_M} (h : f_X4_evening M  = some y) : am_Met K (d + 4) m_X4_evening [.inr (.inr (4, 0, 0))] M (fun q N => q = some (.inl y.1) ∧ N = y.2) :=
  am_Met_of cb_X4_evening (Nat.le_of_ble_eq_true rfl) (w_X4_evening h ⟨rfl, rfl⟩)
def f_X4_seed (M : am_M) (x1 : Int32) : Option (Int32 × am_M) :=
  am_let (M.1 1 0 0 13) (fun v1 => am_let (am_si M 1 0 0 13 x1) (fun M2 => some (v1, M2)))
set_option maxHeartbeats 4000000 in
theorem w_X4_seed {K : am_K} {d : Nat} {post : Option am_V → am_M → Prop} {M : am_M} {x1 : Int32} {y : Int32 × am_M} (h : f_X4_seed M x1 = some y) (hp : post (some (.inl y.1)) y.2) : am_W K d m_X4_seed 0 [(0, .inr (.inr (4, 0, 0))), (1, .inl x1)] [] M post := by
  unfold f_X4_seed at h
  refine am_aload_n dX4_seed_0 rfl ?_
  refine am_getR (o' := 0) dX4_seed_1 fl_RX4_12 sh_4 rfl rfl hk_4 ?_
  refine am_getI dX4_seed_4 fl_RX4_310 sh_1 rfl hk_1 ?_
  obtain ⟨v1, ev1, h⟩ := am_letE h
  refine am_topI ev1 ?_
  refine am_istore_n (ls' := [(0, .inr (.inr (4, 0, 0))), (1, .inl x1), (2, .inl v1)]) dX4_seed_7 (Nat.le_of_ble_eq_true rfl) rfl ?_
  refine am_aload_n dX4_seed_8 rfl ?_
  refine am_getR (o' := 0) dX4_seed_9 fl_RX4_12 sh_4 rfl rfl hk_4 ?_
  refine am_iload_n dX4_seed_12 rfl ?_
  obtain ⟨M2, eM2, h⟩ := am_letE h
  refine am_putI dX4_seed_13 fl_RX4_310 fp_X1_13 sh_1 rfl rfl rfl hk_1 ?_
  refine am_mem eM2 ?_
  refine am_iload_n dX4_seed_16 rfl ?_
  obtain rfl := Option.some.inj h
  exact am_ireturn dX4_seed_17 rfl rfl hp
theorem c_X4_seed {K : am_K} {d : Nat} {M : am_M} {x1 : Int32} {y : Int32 × am_M} (h : f_X4_seed M x1 = some y) : am_Met K d m_X4_seed [.inr (.inr (4, 0, 0)), .inl x1] M (fun q N => q = some (.inl y.1) ∧ N = y.2) :=
  am_Met_of cb_X4_seed (Nat.le_of_ble_eq_true rfl) (w_X4_seed h ⟨rfl, rfl⟩)
def f_X4_image (M : am_M)  : Option (Int32 × am_M) :=
  (f_X1_takeOver M 1 0).bind (fun r2 => am_let (am_si r2 4 0 0 8 (1 : Int32)) (fun M3 => some ((1 : Int32), M3)))
set_option maxHeartbeats 4000000 in
theorem w_X4_image {K : am_K} {d : Nat} {post : Option am_V → am_M → Prop} {M : am_M}  {y : Int32 × am_M} (h : f_X4_image M  = some y) (hp : post (some (.inl y.1)) y.2) : am_W K (d + 2) m_X4_image 0 [(0, .inr (.inr (4, 0, 0)))] [] M post := by
  unfold f_X4_image at h
  refine am_aload_n dX4_image_0 rfl ?_
  refine am_getR (o' := 1) dX4_image_1 fl_RX4_16 sh_4 rfl rfl hk_4 ?_
  refine am_aload_n dX4_image_4 rfl ?_
  refine am_getR (o' := 0) dX4_image_5 fl_RX4_12 sh_4 rfl rfl hk_4 ?_
  obtain ⟨r2, c1, h⟩ := am_bnd h
  refine am_callVv (as := [.inr (.inr (1, 0, 0))]) dX4_image_8 cv_RX4_151 cb_X1_takeOver sh_1 rfl hk_1 rfl rfl (Nat.le_of_ble_eq_true rfl) (c_X1_takeOver c1) ?_
  refine am_aload_n dX4_image_11 rfl ?_
  refine am_iconst dX4_image_12 ic_1 ?_
  obtain ⟨M3, eM3, h⟩ := am_letE h
  refine am_putI dX4_image_13 fl_RX4_313 fp_X4_8 sh_4 rfl (am_narZ (by decide)) (am_fitZ (by decide)) hk_4 ?_
  refine am_mem eM3 ?_
  refine am_iconst dX4_image_16 ic_1 ?_
  obtain rfl := Option.some.inj h
  exact am_ireturn dX4_image_17 rfl rfl hp
theorem c_X4_image {K : am_K} {d : Nat} {M : am_M}  {y : Int32 × am_M} (h : f_X4_image M  = some y) : am_Met K (d + 2) m_X4_image [.inr (.inr (4, 0, 0))] M (fun q N => q = some (.inl y.1) ∧ N = y.2) :=
  am_Met_of cb_X4_image (Nat.le_of_ble_eq_true rfl) (w_X4_image h ⟨rfl, rfl⟩)
def f_X4_back (M : am_M)  : Option (Int32 × am_M) :=
  (if (M.1 4 0 0 8) = 0 then (f_X4_refuse M (-5 : Int32)).bind (fun r4 => some (r4.1, r4.2)) else (f_X1_takeOver M 0 1).bind (fun r2 => some ((1 : Int32), r2)))
set_option maxHeartbeats 4000000 in
theorem w_X4_back {K : am_K} {d : Nat} {post : Option am_V → am_M → Prop} {M : am_M}  {y : Int32 × am_M} (h : f_X4_back M  = some y) (hp : post (some (.inl y.1)) y.2) : am_W K (d + 2) m_X4_back 0 [(0, .inr (.inr (4, 0, 0)))] [] M post := by
  unfold f_X4_back at h
  refine am_aload_n dX4_back_0 rfl ?_
  refine am_getI dX4_back_1 fl_RX4_313 sh_4 rfl hk_4 ?_
  refine am_if_ne 14 dX4_back_4 rfl (fun b5 => ?_) (fun b5 => ?_)
  · replace h := am_ifF b5 h
    refine am_aload_n dX4_back_14 rfl ?_
    refine am_getR (o' := 0) dX4_back_15 fl_RX4_12 sh_4 rfl rfl hk_4 ?_
    refine am_aload_n dX4_back_18 rfl ?_
    refine am_getR (o' := 1) dX4_back_19 fl_RX4_16 sh_4 rfl rfl hk_4 ?_
    obtain ⟨r2, c1, h⟩ := am_bnd h
    refine am_callVv (as := [.inr (.inr (1, 1, 0))]) dX4_back_22 cv_RX4_151 cb_X1_takeOver sh_1 rfl hk_1 rfl rfl (Nat.le_of_ble_eq_true rfl) (c_X1_takeOver c1) ?_
    refine am_iconst dX4_back_25 ic_1 ?_
    obtain rfl := Option.some.inj h
    exact am_ireturn dX4_back_26 rfl rfl hp
  · replace h := am_ifT b5 h
    refine am_aload_n dX4_back_7 rfl ?_
    refine am_bipush dX4_back_8 bp_m5 ?_
    obtain ⟨r4, c3, h⟩ := am_bnd h
    refine am_callVi (as := [.inl (-5 : Int32)]) dX4_back_10 cv_RX4_58 cb_X4_refuse sh_4 rfl hk_4 rfl rfl (Nat.le_of_ble_eq_true rfl) (c_X4_refuse c3) ?_
    obtain rfl := Option.some.inj h
    exact am_ireturn dX4_back_13 rfl rfl hp
theorem c_X4_back {K : am_K} {d : Nat} {M : am_M}  {y : Int32 × am_M} (h : f_X4_back M  = some y) : am_Met K (d + 2) m_X4_back [.inr (.inr (4, 0, 0))] M (fun q N => q = some (.inl y.1) ∧ N = y.2) :=
  am_Met_of cb_X4_back (Nat.le_of_ble_eq_true rfl) (w_X4_back h ⟨rfl, rfl⟩)
def l_X4_shelvesInUse_4 (M : am_M) : Nat → Int32 → Int32 → Option (Int32)
  | 0, _, _ => none
  | n + 1, a1, a2 => (if (8 : Int32) ≤ a2 then some a1 else if am_inb a2 8 = true then (f_X2_isEmpty M a2.toNatClampNeg).bind (fun r3 => ((if r3 = 0 then some (1 : Int32) else some (0 : Int32)) : Option (Int32)).bind (fun z4 => am_let (a1 + z4) (fun v8 => am_let (a2 + (1 : Int32)) (fun v9 => l_X4_shelvesInUse_4 M n v8 v9)))) else none)
set_option maxHeartbeats 4000000 in
theorem wl_X4_shelvesInUse_4 {K : am_K} {d : Nat} {post : Option am_V → am_M → Prop} {M : am_M} : ∀ (n : Nat) (a1 : Int32) (a2 : Int32) (x : Int32), l_X4_shelvesInUse_4 M n a1 a2 = some x → am_W K (d + 1) m_X4_shelvesInUse 36 [(1, .inl x)] [] M post → am_W K (d + 1) m_X4_shelvesInUse 4 [(0, .inr (.inr (4, 0, 0))), (1, .inl a1), (2, .inl a2)] [] M post := by
  intro n
  induction n with
  | zero => intro a1 a2 x h KX; cases h
  | succ n ih =>
    intro a1 a2 x h KX
    rw [l_X4_shelvesInUse_4] at h
    refine am_iload_n dX4_shelvesInUse_4 rfl ?_
    refine am_bipush dX4_shelvesInUse_5 bp_8 ?_
    refine am_icmp_ge 36 dX4_shelvesInUse_7 rfl (fun b10 => ?_) (fun b10 => ?_)
    · replace h := am_ifT b10 h
      obtain rfl := Option.some.inj h
      exact am_drop [1] rfl KX
    · replace h := am_ifF b10 h
      refine am_iload_n dX4_shelvesInUse_10 rfl ?_
      refine am_aload_n dX4_shelvesInUse_11 rfl ?_
      refine am_getR (o' := 0) dX4_shelvesInUse_12 fl_RX4_38 sh_4 rfl rfl hk_4 ?_
      refine am_iload_n dX4_shelvesInUse_15 rfl ?_
      obtain ⟨g1, h⟩ := am_grd h
      refine am_aaload dX4_shelvesInUse_16 sh_505 rfl rfl hk_505 (am_inbE g1) ?_
      refine am_top (w := .inr (.inr (2, a2.toNatClampNeg, 0))) rfl ?_
      obtain ⟨r3, c2, h⟩ := am_bnd h
      refine am_callVi (as := []) dX4_shelvesInUse_17 cv_RX4_101 cb_X2_isEmpty sh_2 rfl hk_2 rfl rfl (Nat.le_of_ble_eq_true rfl) (c_X2_isEmpty c2) ?_
      obtain ⟨z4, h5, h⟩ := am_bnd h
      have KK6 : am_W K (d + 1) m_X4_shelvesInUse 28 [(0, .inr (.inr (4, 0, 0))), (2, .inl a2)] [.inl z4, .inl a1] M post := by
        refine am_iadd dX4_shelvesInUse_28 ?_
        obtain ⟨v8, ev8, h⟩ := am_letE h
        refine am_topI ev8 ?_
        refine am_istore_n (ls' := [(0, .inr (.inr (4, 0, 0))), (1, .inl v8), (2, .inl a2)]) dX4_shelvesInUse_29 (Nat.le_of_ble_eq_true rfl) rfl ?_
        obtain ⟨v9, ev9, h⟩ := am_letE h
        refine am_iinc (ls' := [(0, .inr (.inr (4, 0, 0))), (1, .inl v8), (2, .inl v9)]) dX4_shelvesInUse_30 rfl ((congrArg (fun z => a2 + z) ic_1).trans ev9.symm) (Nat.le_of_ble_eq_true rfl) rfl ?_
        refine am_goto 4 dX4_shelvesInUse_33 rfl ?_
        exact am_drop [0, 1, 2] rfl (ih _ _ _ h KX)
      clear h
      refine am_if_eq 27 dX4_shelvesInUse_20 rfl (fun b7 => ?_) (fun b7 => ?_)
      · replace h5 := am_ifT b7 h5
        refine am_iconst dX4_shelvesInUse_27 ic_1 ?_
        obtain rfl := Option.some.inj h5
        exact am_drop [0, 2] rfl KK6
      · replace h5 := am_ifF b7 h5
        refine am_iconst dX4_shelvesInUse_23 ic_0 ?_
        refine am_goto 28 dX4_shelvesInUse_24 rfl ?_
        obtain rfl := Option.some.inj h5
        exact am_drop [0, 2] rfl KK6
def f_X4_shelvesInUse (M : am_M)  : Option (Int32) :=
  (l_X4_shelvesInUse_4 M 1000 (0 : Int32) (0 : Int32)).bind (fun z11 => some z11)
set_option maxHeartbeats 4000000 in
theorem w_X4_shelvesInUse {K : am_K} {d : Nat} {post : Option am_V → am_M → Prop} {M : am_M}  {y : Int32} (h : f_X4_shelvesInUse M  = some y) (hp : post (some (.inl y)) M) : am_W K (d + 1) m_X4_shelvesInUse 0 [(0, .inr (.inr (4, 0, 0)))] [] M post := by
  unfold f_X4_shelvesInUse at h
  refine am_iconst dX4_shelvesInUse_0 ic_0 ?_
  refine am_istore_n (ls' := [(0, .inr (.inr (4, 0, 0))), (1, .inl (0 : Int32))]) dX4_shelvesInUse_1 (Nat.le_of_ble_eq_true rfl) rfl ?_
  refine am_iconst dX4_shelvesInUse_2 ic_0 ?_
  refine am_istore_n (ls' := [(0, .inr (.inr (4, 0, 0))), (1, .inl (0 : Int32)), (2, .inl (0 : Int32))]) dX4_shelvesInUse_3 (Nat.le_of_ble_eq_true rfl) rfl ?_
  obtain ⟨z11, h12, h⟩ := am_bnd h
  have KK13 : am_W K (d + 1) m_X4_shelvesInUse 36 [(1, .inl z11)] [] M post := by
    refine am_iload_n dX4_shelvesInUse_36 rfl ?_
    obtain rfl := Option.some.inj h
    exact am_ireturn dX4_shelvesInUse_37 rfl rfl hp
  exact am_drop [0, 1, 2] rfl (wl_X4_shelvesInUse_4 _ _ _ _ h12 KK13)
theorem c_X4_shelvesInUse {K : am_K} {d : Nat} {M : am_M}  {y : Int32} (h : f_X4_shelvesInUse M  = some y) : am_Met K (d + 1) m_X4_shelvesInUse [.inr (.inr (4, 0, 0))] M (fun q N => q = some (.inl y) ∧ N = M) :=
  am_Met_of cb_X4_shelvesInUse (Nat.le_of_ble_eq_true rfl) (w_X4_shelvesInUse h ⟨rfl, rfl⟩)
def f_X4_status (M : am_M) (x1 : Int32) : Option (Int32) :=
  (if x1 = (0 : Int32) then some (M.1 1 0 0 0) else if x1 = (1 : Int32) then some (M.1 1 0 0 1) else if x1 = (2 : Int32) then some (M.1 1 0 0 6) else if x1 = (3 : Int32) then some (M.1 1 0 0 9) else if x1 = (4 : Int32) then some (M.1 1 0 0 2) else if x1 = (5 : Int32) then some ((M.1 1 0 0 1) - (M.1 1 0 0 2)) else if x1 = (6 : Int32) then some (M.1 1 0 0 7) else if x1 = (7 : Int32) then some (M.1 3 0 0 0) else if x1 = (8 : Int32) then some (M.1 1 0 0 13) else if x1 = (9 : Int32) then (f_X4_shelvesInUse M).bind (fun r12 => some r12) else if x1 = (10 : Int32) then (f_X1_heapNow M 0).bind (fun r15 => some r15) else (if x1 < (12 : Int32) then some (-1 : Int32) else (if (5 : Int32) ≤ (x1 - (12 : Int32)) then some (-1 : Int32) else if am_inb (x1 - (12 : Int32)) 5 = true then some (M.1 507 0 0 (x1 - (12 : Int32)).toNatClampNeg) else none)))
set_option maxHeartbeats 4000000 in
theorem w_X4_status {K : am_K} {d : Nat} {post : Option am_V → am_M → Prop} {M : am_M} {x1 : Int32} {y : Int32} (h : f_X4_status M x1 = some y) (hp : post (some (.inl y)) M) : am_W K (d + 2) m_X4_status 0 [(0, .inr (.inr (4, 0, 0))), (1, .inl x1)] [] M post := by
  unfold f_X4_status at h
  refine am_iload_n dX4_status_0 rfl ?_
  by_cases b1 : x1 = (0 : Int32)
  · replace h := am_ifT b1 h
    skip
    refine am_swIn 60 dX4_status_1 (by rw [b1]; decide) (by rw [b1]; decide) (by rw [b1]; rfl) rfl ?_
    refine am_aload_n dX4_status_60 rfl ?_
    refine am_getR (o' := 0) dX4_status_61 fl_RX4_12 sh_4 rfl rfl hk_4 ?_
    refine am_getI dX4_status_64 fl_RX4_123 sh_1 rfl hk_1 ?_
    obtain rfl := Option.some.inj h
    exact am_ireturn dX4_status_67 rfl rfl hp
  replace h := am_ifF b1 h
  by_cases b2 : x1 = (1 : Int32)
  · replace h := am_ifT b2 h
    skip
    refine am_swIn 68 dX4_status_1 (by rw [b2]; decide) (by rw [b2]; decide) (by rw [b2]; rfl) rfl ?_
    refine am_aload_n dX4_status_68 rfl ?_
    refine am_getR (o' := 0) dX4_status_69 fl_RX4_12 sh_4 rfl rfl hk_4 ?_
    refine am_getI dX4_status_72 fl_RX4_282 sh_1 rfl hk_1 ?_
    obtain rfl := Option.some.inj h
    exact am_ireturn dX4_status_75 rfl rfl hp
  replace h := am_ifF b2 h
  by_cases b3 : x1 = (2 : Int32)
  · replace h := am_ifT b3 h
    skip
    refine am_swIn 76 dX4_status_1 (by rw [b3]; decide) (by rw [b3]; decide) (by rw [b3]; rfl) rfl ?_
    refine am_aload_n dX4_status_76 rfl ?_
    refine am_getR (o' := 0) dX4_status_77 fl_RX4_12 sh_4 rfl rfl hk_4 ?_
    refine am_getI dX4_status_80 fl_RX4_120 sh_1 rfl hk_1 ?_
    obtain rfl := Option.some.inj h
    exact am_ireturn dX4_status_83 rfl rfl hp
  replace h := am_ifF b3 h
  by_cases b4 : x1 = (3 : Int32)
  · replace h := am_ifT b4 h
    skip
    refine am_swIn 84 dX4_status_1 (by rw [b4]; decide) (by rw [b4]; decide) (by rw [b4]; rfl) rfl ?_
    refine am_aload_n dX4_status_84 rfl ?_
    refine am_getR (o' := 0) dX4_status_85 fl_RX4_12 sh_4 rfl rfl hk_4 ?_
    refine am_getI dX4_status_88 fl_RX4_132 sh_1 rfl hk_1 ?_
    obtain rfl := Option.some.inj h
    exact am_ireturn dX4_status_91 rfl rfl hp
  replace h := am_ifF b4 h
  by_cases b5 : x1 = (4 : Int32)
  · replace h := am_ifT b5 h
    skip
    refine am_swIn 92 dX4_status_1 (by rw [b5]; decide) (by rw [b5]; decide) (by rw [b5]; rfl) rfl ?_
    refine am_aload_n dX4_status_92 rfl ?_
    refine am_getR (o' := 0) dX4_status_93 fl_RX4_12 sh_4 rfl rfl hk_4 ?_
    refine am_getI dX4_status_96 fl_RX4_279 sh_1 rfl hk_1 ?_
    obtain rfl := Option.some.inj h
    exact am_ireturn dX4_status_99 rfl rfl hp
  replace h := am_ifF b5 h
  by_cases b6 : x1 = (5 : Int32)
  · replace h := am_ifT b6 h
    skip
    refine am_swIn 100 dX4_status_1 (by rw [b6]; decide) (by rw [b6]; decide) (by rw [b6]; rfl) rfl ?_
    refine am_aload_n dX4_status_100 rfl ?_
    refine am_getR (o' := 0) dX4_status_101 fl_RX4_12 sh_4 rfl rfl hk_4 ?_
    refine am_getI dX4_status_104 fl_RX4_282 sh_1 rfl hk_1 ?_
    refine am_aload_n dX4_status_107 rfl ?_
    refine am_getR (o' := 0) dX4_status_108 fl_RX4_12 sh_4 rfl rfl hk_4 ?_
    refine am_getI dX4_status_111 fl_RX4_279 sh_1 rfl hk_1 ?_
    refine am_isub dX4_status_114 ?_
    obtain rfl := Option.some.inj h
    exact am_ireturn dX4_status_115 rfl rfl hp
  replace h := am_ifF b6 h
  by_cases b7 : x1 = (6 : Int32)
  · replace h := am_ifT b7 h
    skip
    refine am_swIn 116 dX4_status_1 (by rw [b7]; decide) (by rw [b7]; decide) (by rw [b7]; rfl) rfl ?_
    refine am_aload_n dX4_status_116 rfl ?_
    refine am_getR (o' := 0) dX4_status_117 fl_RX4_12 sh_4 rfl rfl hk_4 ?_
    refine am_getI dX4_status_120 fl_RX4_190 sh_1 rfl hk_1 ?_
    obtain rfl := Option.some.inj h
    exact am_ireturn dX4_status_123 rfl rfl hp
  replace h := am_ifF b7 h
  by_cases b8 : x1 = (7 : Int32)
  · replace h := am_ifT b8 h
    skip
    refine am_swIn 124 dX4_status_1 (by rw [b8]; decide) (by rw [b8]; decide) (by rw [b8]; rfl) rfl ?_
    refine am_aload_n dX4_status_124 rfl ?_
    refine am_getR (o' := 0) dX4_status_125 fl_RX4_32 sh_4 rfl rfl hk_4 ?_
    refine am_getI dX4_status_128 fl_RX4_145 sh_3 rfl hk_3 ?_
    obtain rfl := Option.some.inj h
    exact am_ireturn dX4_status_131 rfl rfl hp
  replace h := am_ifF b8 h
  by_cases b9 : x1 = (8 : Int32)
  · replace h := am_ifT b9 h
    skip
    refine am_swIn 132 dX4_status_1 (by rw [b9]; decide) (by rw [b9]; decide) (by rw [b9]; rfl) rfl ?_
    refine am_aload_n dX4_status_132 rfl ?_
    refine am_getR (o' := 0) dX4_status_133 fl_RX4_12 sh_4 rfl rfl hk_4 ?_
    refine am_getI dX4_status_136 fl_RX4_310 sh_1 rfl hk_1 ?_
    obtain rfl := Option.some.inj h
    exact am_ireturn dX4_status_139 rfl rfl hp
  replace h := am_ifF b9 h
  by_cases b10 : x1 = (9 : Int32)
  · replace h := am_ifT b10 h
    skip
    refine am_swIn 140 dX4_status_1 (by rw [b10]; decide) (by rw [b10]; decide) (by rw [b10]; rfl) rfl ?_
    refine am_aload_n dX4_status_140 rfl ?_
    obtain ⟨r12, c11, h⟩ := am_bnd h
    refine am_callVi (as := []) dX4_status_141 cv_RX4_317 cb_X4_shelvesInUse sh_4 rfl hk_4 rfl rfl (Nat.le_of_ble_eq_true rfl) (c_X4_shelvesInUse c11) ?_
    obtain rfl := Option.some.inj h
    exact am_ireturn dX4_status_144 rfl rfl hp
  replace h := am_ifF b10 h
  by_cases b13 : x1 = (10 : Int32)
  · replace h := am_ifT b13 h
    skip
    refine am_swIn 145 dX4_status_1 (by rw [b13]; decide) (by rw [b13]; decide) (by rw [b13]; rfl) rfl ?_
    refine am_aload_n dX4_status_145 rfl ?_
    refine am_getR (o' := 0) dX4_status_146 fl_RX4_12 sh_4 rfl rfl hk_4 ?_
    obtain ⟨r15, c14, h⟩ := am_bnd h
    refine am_callVi (as := []) dX4_status_149 cv_RX4_320 cb_X1_heapNow sh_1 rfl hk_1 rfl rfl (Nat.le_of_ble_eq_true rfl) (c_X1_heapNow c14) ?_
    obtain rfl := Option.some.inj h
    exact am_ireturn dX4_status_152 rfl rfl hp
  replace h := am_ifF b13 h
  have nb1 : ¬ (x1).toInt = 0 := am_neI b1
  have nb2 : ¬ (x1).toInt = 1 := am_neI b2
  have nb3 : ¬ (x1).toInt = 2 := am_neI b3
  have nb4 : ¬ (x1).toInt = 3 := am_neI b4
  have nb5 : ¬ (x1).toInt = 4 := am_neI b5
  have nb6 : ¬ (x1).toInt = 5 := am_neI b6
  have nb7 : ¬ (x1).toInt = 6 := am_neI b7
  have nb8 : ¬ (x1).toInt = 7 := am_neI b8
  have nb9 : ¬ (x1).toInt = 8 := am_neI b9
  have nb10 : ¬ (x1).toInt = 9 := am_neI b10
  have nb13 : ¬ (x1).toInt = 10 := am_neI b13
  refine am_swOut 153 dX4_status_1 (by omega) rfl ?_
  refine am_iload_n dX4_status_153 rfl ?_
  refine am_bipush dX4_status_154 bp_12 ?_
  refine am_icmp_lt 183 dX4_status_156 rfl (fun b18 => ?_) (fun b18 => ?_)
  · replace h := am_ifT b18 h
    refine am_iconst dX4_status_183 ic_m1 ?_
    obtain rfl := Option.some.inj h
    exact am_ireturn dX4_status_184 rfl rfl hp
  · replace h := am_ifF b18 h
    refine am_iload_n dX4_status_159 rfl ?_
    refine am_bipush dX4_status_160 bp_12 ?_
    refine am_isub dX4_status_162 ?_
    refine am_aload_n dX4_status_163 rfl ?_
    refine am_getR (o' := 0) dX4_status_164 fl_RX4_46 sh_4 rfl rfl hk_4 ?_
    refine am_alen dX4_status_167 sh_507 (by decide) hk_507 on_5 ?_
    refine am_icmp_ge 183 dX4_status_168 rfl (fun b17 => ?_) (fun b17 => ?_)
    · replace h := am_ifT b17 h
      refine am_iconst dX4_status_183 ic_m1 ?_
      obtain rfl := Option.some.inj h
      exact am_ireturn dX4_status_184 rfl rfl hp
    · replace h := am_ifF b17 h
      refine am_aload_n dX4_status_171 rfl ?_
      refine am_getR (o' := 0) dX4_status_172 fl_RX4_46 sh_4 rfl rfl hk_4 ?_
      refine am_iload_n dX4_status_175 rfl ?_
      refine am_bipush dX4_status_176 bp_12 ?_
      refine am_isub dX4_status_178 ?_
      obtain ⟨g16, h⟩ := am_grd h
      refine am_iaload dX4_status_179 sh_507 hk_507 (am_inbE g16) ?_
      refine am_goto 184 dX4_status_180 rfl ?_
      obtain rfl := Option.some.inj h
      exact am_ireturn dX4_status_184 rfl rfl hp
theorem c_X4_status {K : am_K} {d : Nat} {M : am_M} {x1 : Int32} {y : Int32} (h : f_X4_status M x1 = some y) : am_Met K (d + 2) m_X4_status [.inr (.inr (4, 0, 0)), .inl x1] M (fun q N => q = some (.inl y) ∧ N = M) :=
  am_Met_of cb_X4_status (Nat.le_of_ble_eq_true rfl) (w_X4_status h ⟨rfl, rfl⟩)
def f_X5_refuse (M : am_M) (o : Nat) (x1 : Int32) : Option (Int32 × am_M) :=
  if am_inb (-x1) 8 = true then if am_inb (-x1) 8 = true then am_let (am_si M 609 o 0 (-x1).toNatClampNeg ((M.1 609 o 0 (-x1).toNatClampNeg) + (1 : Int32))) (fun M3 => some (x1, M3)) else none else none
set_option maxHeartbeats 4000000 in
theorem w_X5_refuse {K : am_K} {d : Nat} {post : Option am_V → am_M → Prop} {M : am_M} {o : Nat} {x1 : Int32} {y : Int32 × am_M} (h : f_X5_refuse M o x1 = some y) (hp : post (some (.inl y.1)) y.2) : am_W K d m_X5_refuse 0 [(0, .inr (.inr (5, o, 0))), (1, .inl x1)] [] M post := by
  unfold f_X5_refuse at h
  refine am_aload_n dX5_refuse_0 rfl ?_
  refine am_getR (o' := o) dX5_refuse_1 fl_RX5_37 sh_5 rfl rfl hk_5 ?_
  refine am_iload_n dX5_refuse_4 rfl ?_
  refine am_ineg dX5_refuse_5 ?_
  refine am_dup2 dX5_refuse_6 rfl rfl ?_
  obtain ⟨g1, h⟩ := am_grd h
  refine am_iaload dX5_refuse_7 sh_609 hk_609 (am_inbE g1) ?_
  refine am_iconst dX5_refuse_8 ic_1 ?_
  refine am_iadd dX5_refuse_9 ?_
  obtain ⟨g2, h⟩ := am_grd h
  obtain ⟨M3, eM3, h⟩ := am_letE h
  refine am_iastore dX5_refuse_10 sh_609 hk_609 (am_inbE g2) ?_
  refine am_mem eM3 ?_
  refine am_iload_n dX5_refuse_11 rfl ?_
  obtain rfl := Option.some.inj h
  exact am_ireturn dX5_refuse_12 rfl rfl hp
theorem c_X5_refuse {K : am_K} {d : Nat} {M : am_M} {o : Nat} {x1 : Int32} {y : Int32 × am_M} (h : f_X5_refuse M o x1 = some y) : am_Met K d m_X5_refuse [.inr (.inr (5, o, 0)), .inl x1] M (fun q N => q = some (.inl y.1) ∧ N = y.2) :=
  am_Met_of cb_X5_refuse (Nat.le_of_ble_eq_true rfl) (w_X5_refuse h ⟨rfl, rfl⟩)
def f_X5_in (M : am_M) (x0 : Int64) (x2 : Int64) (x4 : Int64) : Option (Int32) :=
  (if (lg_cmp x0 x2) < 0 then some (0 : Int32) else (if 0 < (lg_cmp x0 x4) then some (0 : Int32) else some (1 : Int32)))
set_option maxHeartbeats 4000000 in
theorem w_X5_in {K : am_K} {d : Nat} {post : Option am_V → am_M → Prop} {M : am_M} {x0 : Int64} {x2 : Int64} {x4 : Int64} {y : Int32} (h : f_X5_in M x0 x2 x4 = some y) (hp : post (some (.inl y)) M) : am_W K d m_X5_in 0 [(0, .inr (.inl x0)), (2, .inr (.inl x2)), (4, .inr (.inl x4))] [] M post := by
  unfold f_X5_in at h
  refine am_lload_n dX5_in_0 rfl ?_
  refine am_lload_n dX5_in_1 rfl ?_
  refine am_lcmp dX5_in_2 ?_
  refine am_if_lt 17 dX5_in_3 rfl (fun b2 => ?_) (fun b2 => ?_)
  · replace h := am_ifT b2 h
    refine am_iconst dX5_in_17 ic_0 ?_
    obtain rfl := Option.some.inj h
    exact am_ireturn dX5_in_18 rfl (am_narZ (by decide)) hp
  · replace h := am_ifF b2 h
    refine am_lload_n dX5_in_6 rfl ?_
    refine am_lload dX5_in_7 rfl ?_
    refine am_lcmp dX5_in_9 ?_
    refine am_if_gt 17 dX5_in_10 rfl (fun b1 => ?_) (fun b1 => ?_)
    · replace h := am_ifT b1 h
      refine am_iconst dX5_in_17 ic_0 ?_
      obtain rfl := Option.some.inj h
      exact am_ireturn dX5_in_18 rfl (am_narZ (by decide)) hp
    · replace h := am_ifF b1 h
      refine am_iconst dX5_in_13 ic_1 ?_
      refine am_goto 18 dX5_in_14 rfl ?_
      obtain rfl := Option.some.inj h
      exact am_ireturn dX5_in_18 rfl (am_narZ (by decide)) hp
theorem c_X5_in {K : am_K} {d : Nat} {M : am_M} {x0 : Int64} {x2 : Int64} {x4 : Int64} {y : Int32} (h : f_X5_in M x0 x2 x4 = some y) : am_Met K d m_X5_in [.inr (.inl x0), .inr (.inl x2), .inr (.inl x4)] M (fun q N => q = some (.inl y) ∧ N = M) :=
  am_Met_of cb_X5_in (Nat.le_of_ble_eq_true rfl) (w_X5_in h ⟨rfl, rfl⟩)
def l_X5_row_67 (o0a : Nat) (a1 : Int32) : Nat → Int32 → am_M → Option (am_M)
  | 0, _, _ => none
  | n + 1, a4, M => (if (40 : Int32) ≤ a4 then some M else if am_inb a1 8 = true then if am_inb a4 40 = true then am_let (am_sl M 703 o0a a1.toNatClampNeg a4.toNatClampNeg (0 : Int64)) (fun M19 => am_let (a4 + (1 : Int32)) (fun v20 => l_X5_row_67 o0a a1 n v20 M19)) else none else none)
set_option maxHeartbeats 4000000 in
theorem wl_X5_row_67 {K : am_K} {d : Nat} {post : Option am_V → am_M → Prop} {o0a : Nat} {a1 : Int32} : ∀ (n : Nat) (a4 : Int32) (M : am_M) (x : am_M), l_X5_row_67 o0a a1 n a4 M = some x → am_W K (d + 1) m_X5_row 90 [] [] x post → am_W K (d + 1) m_X5_row 67 [(0, .inr (.inr (5, o0a, 0))), (1, .inl a1), (4, .inl a4)] [] M post := by
  intro n
  induction n with
  | zero => intro a4 M x h KX; cases h
  | succ n ih =>
    intro a4 M x h KX
    rw [l_X5_row_67] at h
    refine am_iload dX5_row_67 rfl ?_
    refine am_bipush dX5_row_69 bp_40 ?_
    refine am_icmp_ge 90 dX5_row_71 rfl (fun b21 => ?_) (fun b21 => ?_)
    · replace h := am_ifT b21 h
      obtain rfl := Option.some.inj h
      exact am_drop [] rfl KX
    · replace h := am_ifF b21 h
      refine am_aload_n dX5_row_74 rfl ?_
      refine am_getR (o' := o0a) dX5_row_75 fl_RX5_21 sh_5 rfl rfl hk_5 ?_
      refine am_iload_n dX5_row_78 rfl ?_
      obtain ⟨g17, h⟩ := am_grd h
      refine am_aaload dX5_row_79 sh_603 rfl rfl hk_603 (am_inbE g17) ?_
      refine am_top (w := .inr (.inr (703, o0a, a1.toNatClampNeg))) rfl ?_
      refine am_iload dX5_row_80 rfl ?_
      refine am_lconst dX5_row_82 lc_0 ?_
      obtain ⟨g18, h⟩ := am_grd h
      obtain ⟨M19, eM19, h⟩ := am_letE h
      refine am_lastore dX5_row_83 sh_703 hk_703 (am_inbE g18) ?_
      refine am_mem eM19 ?_
      obtain ⟨v20, ev20, h⟩ := am_letE h
      refine am_iinc (ls' := [(0, .inr (.inr (5, o0a, 0))), (1, .inl a1), (4, .inl v20)]) dX5_row_84 rfl ((congrArg (fun z => a4 + z) ic_1).trans ev20.symm) (Nat.le_of_ble_eq_true rfl) rfl ?_
      refine am_goto 67 dX5_row_87 rfl ?_
      exact am_drop [0, 1, 4] rfl (ih _ _ _ h KX)
def f_X5_row (M : am_M) (o : Nat) (x1 : Int32) (x2 : Int32) (x3 : Int32) : Option (Int32 × am_M) :=
  (f_X5_in M x1.toInt64 (0 : Int64) (7 : Int64)).bind (fun r2 => (if r2 = 0 then (f_X5_refuse M o (-2 : Int32)).bind (fun r4 => some (r4.1, r4.2)) else (f_X5_in M x2.toInt64 (0 : Int64) (4 : Int64)).bind (fun r6 => (if r6 = 0 then (f_X5_refuse M o (-2 : Int32)).bind (fun r8 => some (r8.1, r8.2)) else (f_X5_in M x3.toInt64 (0 : Int64) (40 : Int64)).bind (fun r10 => (if r10 = 0 then (f_X5_refuse M o (-2 : Int32)).bind (fun r26 => some (r26.1, r26.2)) else if am_inb x1 8 = true then am_let (am_si M 600 o 0 x1.toNatClampNeg (1 : Int32)) (fun M12 => if am_inb x1 8 = true then am_let (am_si M12 601 o 0 x1.toNatClampNeg x2) (fun M14 => if am_inb x1 8 = true then am_let (am_si M14 602 o 0 x1.toNatClampNeg x3) (fun M16 => (l_X5_row_67 o x1 1000 (0 : Int32) M16).bind (fun z22 => some ((1 : Int32), z22))) else none) else none) else none))))))
set_option maxHeartbeats 4000000 in
theorem w_X5_row {K : am_K} {d : Nat} {post : Option am_V → am_M → Prop} {M : am_M} {o : Nat} {x1 : Int32} {x2 : Int32} {x3 : Int32} {y : Int32 × am_M} (h : f_X5_row M o x1 x2 x3 = some y) (hp : post (some (.inl y.1)) y.2) : am_W K (d + 1) m_X5_row 0 [(0, .inr (.inr (5, o, 0))), (1, .inl x1), (2, .inl x2), (3, .inl x3)] [] M post := by
  unfold f_X5_row at h
  refine am_iload_n dX5_row_0 rfl ?_
  refine am_i2l dX5_row_1 ?_
  refine am_lconst dX5_row_2 lc_0 ?_
  refine am_ldc2 dX5_row_3 kc_RX5_93 ?_
  obtain ⟨r2, c1, h⟩ := am_bnd h
  refine am_callSi (as := [.inr (.inl x1.toInt64), .inr (.inl (0 : Int64)), .inr (.inl (7 : Int64))]) dX5_row_6 cs_RX5_95 cb_X5_in rfl rfl (Nat.le_of_ble_eq_true rfl) (c_X5_in c1) ?_
  refine am_if_eq 36 dX5_row_9 rfl (fun b29 => ?_) (fun b29 => ?_)
  · replace h := am_ifT b29 h
    refine am_aload_n dX5_row_36 rfl ?_
    refine am_bipush dX5_row_37 bp_m2 ?_
    obtain ⟨r4, c3, h⟩ := am_bnd h
    refine am_callVi (as := [.inl (-2 : Int32)]) dX5_row_39 cv_RX5_103 cb_X5_refuse sh_5 rfl hk_5 rfl rfl (Nat.le_of_ble_eq_true rfl) (c_X5_refuse c3) ?_
    obtain rfl := Option.some.inj h
    exact am_ireturn dX5_row_42 rfl rfl hp
  · replace h := am_ifF b29 h
    refine am_iload_n dX5_row_12 rfl ?_
    refine am_i2l dX5_row_13 ?_
    refine am_lconst dX5_row_14 lc_0 ?_
    refine am_ldc2 dX5_row_15 kc_RX5_99 ?_
    obtain ⟨r6, c5, h⟩ := am_bnd h
    refine am_callSi (as := [.inr (.inl x2.toInt64), .inr (.inl (0 : Int64)), .inr (.inl (4 : Int64))]) dX5_row_18 cs_RX5_95 cb_X5_in rfl rfl (Nat.le_of_ble_eq_true rfl) (c_X5_in c5) ?_
    refine am_if_eq 36 dX5_row_21 rfl (fun b28 => ?_) (fun b28 => ?_)
    · replace h := am_ifT b28 h
      refine am_aload_n dX5_row_36 rfl ?_
      refine am_bipush dX5_row_37 bp_m2 ?_
      obtain ⟨r8, c7, h⟩ := am_bnd h
      refine am_callVi (as := [.inl (-2 : Int32)]) dX5_row_39 cv_RX5_103 cb_X5_refuse sh_5 rfl hk_5 rfl rfl (Nat.le_of_ble_eq_true rfl) (c_X5_refuse c7) ?_
      obtain rfl := Option.some.inj h
      exact am_ireturn dX5_row_42 rfl rfl hp
    · replace h := am_ifF b28 h
      refine am_iload_n dX5_row_24 rfl ?_
      refine am_i2l dX5_row_25 ?_
      refine am_lconst dX5_row_26 lc_0 ?_
      refine am_ldc2 dX5_row_27 kc_RX5_101 ?_
      obtain ⟨r10, c9, h⟩ := am_bnd h
      refine am_callSi (as := [.inr (.inl x3.toInt64), .inr (.inl (0 : Int64)), .inr (.inl (40 : Int64))]) dX5_row_30 cs_RX5_95 cb_X5_in rfl rfl (Nat.le_of_ble_eq_true rfl) (c_X5_in c9) ?_
      refine am_if_ne 43 dX5_row_33 rfl (fun b27 => ?_) (fun b27 => ?_)
      · replace h := am_ifF b27 h
        refine am_aload_n dX5_row_43 rfl ?_
        refine am_getR (o' := o) dX5_row_44 fl_RX5_7 sh_5 rfl rfl hk_5 ?_
        refine am_iload_n dX5_row_47 rfl ?_
        refine am_iconst dX5_row_48 ic_1 ?_
        obtain ⟨g11, h⟩ := am_grd h
        obtain ⟨M12, eM12, h⟩ := am_letE h
        refine am_iastore dX5_row_49 sh_600 hk_600 (am_inbE g11) ?_
        refine am_mem eM12 ?_
        refine am_aload_n dX5_row_50 rfl ?_
        refine am_getR (o' := o) dX5_row_51 fl_RX5_13 sh_5 rfl rfl hk_5 ?_
        refine am_iload_n dX5_row_54 rfl ?_
        refine am_iload_n dX5_row_55 rfl ?_
        obtain ⟨g13, h⟩ := am_grd h
        obtain ⟨M14, eM14, h⟩ := am_letE h
        refine am_iastore dX5_row_56 sh_601 hk_601 (am_inbE g13) ?_
        refine am_mem eM14 ?_
        refine am_aload_n dX5_row_57 rfl ?_
        refine am_getR (o' := o) dX5_row_58 fl_RX5_16 sh_5 rfl rfl hk_5 ?_
        refine am_iload_n dX5_row_61 rfl ?_
        refine am_iload_n dX5_row_62 rfl ?_
        obtain ⟨g15, h⟩ := am_grd h
        obtain ⟨M16, eM16, h⟩ := am_letE h
        refine am_iastore dX5_row_63 sh_602 hk_602 (am_inbE g15) ?_
        refine am_mem eM16 ?_
        refine am_iconst dX5_row_64 ic_0 ?_
        refine am_istore (ls' := [(0, .inr (.inr (5, o, 0))), (1, .inl x1), (2, .inl x2), (3, .inl x3), (4, .inl (0 : Int32))]) dX5_row_65 (Nat.le_of_ble_eq_true rfl) rfl ?_
        obtain ⟨z22, h23, h⟩ := am_bnd h
        have KK24 : am_W K (d + 1) m_X5_row 90 [] [] z22 post := by
          refine am_iconst dX5_row_90 ic_1 ?_
          obtain rfl := Option.some.inj h
          exact am_ireturn dX5_row_91 rfl rfl hp
        exact am_drop [0, 1, 4] rfl (wl_X5_row_67 _ _ _ _ h23 KK24)
      · replace h := am_ifT b27 h
        refine am_aload_n dX5_row_36 rfl ?_
        refine am_bipush dX5_row_37 bp_m2 ?_
        obtain ⟨r26, c25, h⟩ := am_bnd h
        refine am_callVi (as := [.inl (-2 : Int32)]) dX5_row_39 cv_RX5_103 cb_X5_refuse sh_5 rfl hk_5 rfl rfl (Nat.le_of_ble_eq_true rfl) (c_X5_refuse c25) ?_
        obtain rfl := Option.some.inj h
        exact am_ireturn dX5_row_42 rfl rfl hp
theorem c_X5_row {K : am_K} {d : Nat} {M : am_M} {o : Nat} {x1 : Int32} {x2 : Int32} {x3 : Int32} {y : Int32 × am_M} (h : f_X5_row M o x1 x2 x3 = some y) : am_Met K (d + 1) m_X5_row [.inr (.inr (5, o, 0)), .inl x1, .inl x2, .inl x3] M (fun q N => q = some (.inl y.1) ∧ N = y.2) :=
  am_Met_of cb_X5_row (Nat.le_of_ble_eq_true rfl) (w_X5_row h ⟨rfl, rfl⟩)
def f_X5_fit (M : am_M) (x0 : Int32) (x1 : Int64) : Option (Int64) :=
  (if x0 = (0 : Int32) then some x1.toInt32.toInt8.toInt32.toInt64 else if x0 = (1 : Int32) then some x1.toInt32.toInt16.toInt32.toInt64 else if x0 = (2 : Int32) then some x1.toInt32.toInt64 else if x0 = (3 : Int32) then some x1 else (if (lg_cmp x1 (0 : Int64)) = 0 then some (0 : Int64) else some (1 : Int64)))
set_option maxHeartbeats 4000000 in
theorem w_X5_fit {K : am_K} {d : Nat} {post : Option am_V → am_M → Prop} {M : am_M} {x0 : Int32} {x1 : Int64} {y : Int64} (h : f_X5_fit M x0 x1 = some y) (hp : post (some (.inr (.inl y))) M) : am_W K d m_X5_fit 0 [(0, .inl x0), (1, .inr (.inl x1))] [] M post := by
  unfold f_X5_fit at h
  refine am_iload_n dX5_fit_0 rfl ?_
  by_cases b1 : x0 = (0 : Int32)
  · replace h := am_ifT b1 h
    skip
    refine am_swIn 32 dX5_fit_1 (by rw [b1]; decide) (by rw [b1]; decide) (by rw [b1]; rfl) rfl ?_
    refine am_lload_n dX5_fit_32 rfl ?_
    refine am_l2i dX5_fit_33 ?_
    refine am_i2b dX5_fit_34 ?_
    refine am_i2l dX5_fit_35 ?_
    obtain rfl := Option.some.inj h
    exact am_lreturn dX5_fit_36 rfl hp
  replace h := am_ifF b1 h
  by_cases b2 : x0 = (1 : Int32)
  · replace h := am_ifT b2 h
    skip
    refine am_swIn 37 dX5_fit_1 (by rw [b2]; decide) (by rw [b2]; decide) (by rw [b2]; rfl) rfl ?_
    refine am_lload_n dX5_fit_37 rfl ?_
    refine am_l2i dX5_fit_38 ?_
    refine am_i2s dX5_fit_39 ?_
    refine am_i2l dX5_fit_40 ?_
    obtain rfl := Option.some.inj h
    exact am_lreturn dX5_fit_41 rfl hp
  replace h := am_ifF b2 h
  by_cases b3 : x0 = (2 : Int32)
  · replace h := am_ifT b3 h
    skip
    refine am_swIn 42 dX5_fit_1 (by rw [b3]; decide) (by rw [b3]; decide) (by rw [b3]; rfl) rfl ?_
    refine am_lload_n dX5_fit_42 rfl ?_
    refine am_l2i dX5_fit_43 ?_
    refine am_i2l dX5_fit_44 ?_
    obtain rfl := Option.some.inj h
    exact am_lreturn dX5_fit_45 rfl hp
  replace h := am_ifF b3 h
  by_cases b4 : x0 = (3 : Int32)
  · replace h := am_ifT b4 h
    skip
    refine am_swIn 46 dX5_fit_1 (by rw [b4]; decide) (by rw [b4]; decide) (by rw [b4]; rfl) rfl ?_
    refine am_lload_n dX5_fit_46 rfl ?_
    obtain rfl := Option.some.inj h
    exact am_lreturn dX5_fit_47 rfl hp
  replace h := am_ifF b4 h
  have nb1 : ¬ (x0).toInt = 0 := am_neI b1
  have nb2 : ¬ (x0).toInt = 1 := am_neI b2
  have nb3 : ¬ (x0).toInt = 2 := am_neI b3
  have nb4 : ¬ (x0).toInt = 3 := am_neI b4
  refine am_swOut 48 dX5_fit_1 (by omega) rfl ?_
  refine am_lload_n dX5_fit_48 rfl ?_
  refine am_lconst dX5_fit_49 lc_0 ?_
  refine am_lcmp dX5_fit_50 ?_
  refine am_if_eq 58 dX5_fit_51 rfl (fun b5 => ?_) (fun b5 => ?_)
  · replace h := am_ifT b5 h
    refine am_lconst dX5_fit_58 lc_0 ?_
    obtain rfl := Option.some.inj h
    exact am_lreturn dX5_fit_59 rfl hp
  · replace h := am_ifF b5 h
    refine am_lconst dX5_fit_54 lc_1 ?_
    refine am_goto 59 dX5_fit_55 rfl ?_
    obtain rfl := Option.some.inj h
    exact am_lreturn dX5_fit_59 rfl hp
theorem c_X5_fit {K : am_K} {d : Nat} {M : am_M} {x0 : Int32} {x1 : Int64} {y : Int64} (h : f_X5_fit M x0 x1 = some y) : am_Met K d m_X5_fit [.inl x0, .inr (.inl x1)] M (fun q N => q = some (.inr (.inl y)) ∧ N = M) :=
  am_Met_of cb_X5_fit (Nat.le_of_ble_eq_true rfl) (w_X5_fit h ⟨rfl, rfl⟩)
def f_X5_noRow (M : am_M) (o : Nat) (x1 : Int32) : Option (Int32 × am_M) :=
  (f_X5_in M x1.toInt64 (0 : Int64) (7 : Int64)).bind (fun r2 => (if r2 = 0 then (f_X5_refuse M o (-2 : Int32)).bind (fun r12 => some (r12.1, r12.2)) else if am_inb x1 8 = true then (if (M.1 600 o 0 x1.toNatClampNeg) = (2 : Int32) then (f_X5_refuse M o (-3 : Int32)).bind (fun r9 => some (r9.1, r9.2)) else if am_inb x1 8 = true then (if (M.1 600 o 0 x1.toNatClampNeg) = 0 then (f_X5_refuse M o (-4 : Int32)).bind (fun r6 => some (r6.1, r6.2)) else some ((0 : Int32), M)) else none) else none))
set_option maxHeartbeats 4000000 in
theorem w_X5_noRow {K : am_K} {d : Nat} {post : Option am_V → am_M → Prop} {M : am_M} {o : Nat} {x1 : Int32} {y : Int32 × am_M} (h : f_X5_noRow M o x1 = some y) (hp : post (some (.inl y.1)) y.2) : am_W K (d + 1) m_X5_noRow 0 [(0, .inr (.inr (5, o, 0))), (1, .inl x1)] [] M post := by
  unfold f_X5_noRow at h
  refine am_iload_n dX5_noRow_0 rfl ?_
  refine am_i2l dX5_noRow_1 ?_
  refine am_lconst dX5_noRow_2 lc_0 ?_
  refine am_ldc2 dX5_noRow_3 kc_RX5_93 ?_
  obtain ⟨r2, c1, h⟩ := am_bnd h
  refine am_callSi (as := [.inr (.inl x1.toInt64), .inr (.inl (0 : Int64)), .inr (.inl (7 : Int64))]) dX5_noRow_6 cs_RX5_95 cb_X5_in rfl rfl (Nat.le_of_ble_eq_true rfl) (c_X5_in c1) ?_
  refine am_if_ne 19 dX5_noRow_9 rfl (fun b13 => ?_) (fun b13 => ?_)
  · replace h := am_ifF b13 h
    refine am_aload_n dX5_noRow_19 rfl ?_
    refine am_getR (o' := o) dX5_noRow_20 fl_RX5_7 sh_5 rfl rfl hk_5 ?_
    refine am_iload_n dX5_noRow_23 rfl ?_
    obtain ⟨g3, h⟩ := am_grd h
    refine am_iaload dX5_noRow_24 sh_600 hk_600 (am_inbE g3) ?_
    refine am_iconst dX5_noRow_25 ic_2 ?_
    refine am_icmp_ne 36 dX5_noRow_26 rfl (fun b10 => ?_) (fun b10 => ?_)
    · replace h := am_ifF b10 h
      refine am_aload_n dX5_noRow_36 rfl ?_
      refine am_getR (o' := o) dX5_noRow_37 fl_RX5_7 sh_5 rfl rfl hk_5 ?_
      refine am_iload_n dX5_noRow_40 rfl ?_
      obtain ⟨g4, h⟩ := am_grd h
      refine am_iaload dX5_noRow_41 sh_600 hk_600 (am_inbE g4) ?_
      refine am_if_ne 54 dX5_noRow_42 rfl (fun b7 => ?_) (fun b7 => ?_)
      · replace h := am_ifF b7 h
        refine am_iconst dX5_noRow_54 ic_0 ?_
        obtain rfl := Option.some.inj h
        exact am_ireturn dX5_noRow_55 rfl rfl hp
      · replace h := am_ifT b7 h
        refine am_aload_n dX5_noRow_45 rfl ?_
        refine am_bipush dX5_noRow_46 bp_m4 ?_
        obtain ⟨r6, c5, h⟩ := am_bnd h
        refine am_callVi (as := [.inl (-4 : Int32)]) dX5_noRow_48 cv_RX5_103 cb_X5_refuse sh_5 rfl hk_5 rfl rfl (Nat.le_of_ble_eq_true rfl) (c_X5_refuse c5) ?_
        refine am_goto 55 dX5_noRow_51 rfl ?_
        obtain rfl := Option.some.inj h
        exact am_ireturn dX5_noRow_55 rfl rfl hp
    · replace h := am_ifT b10 h
      refine am_aload_n dX5_noRow_29 rfl ?_
      refine am_bipush dX5_noRow_30 bp_m3 ?_
      obtain ⟨r9, c8, h⟩ := am_bnd h
      refine am_callVi (as := [.inl (-3 : Int32)]) dX5_noRow_32 cv_RX5_103 cb_X5_refuse sh_5 rfl hk_5 rfl rfl (Nat.le_of_ble_eq_true rfl) (c_X5_refuse c8) ?_
      obtain rfl := Option.some.inj h
      exact am_ireturn dX5_noRow_35 rfl rfl hp
  · replace h := am_ifT b13 h
    refine am_aload_n dX5_noRow_12 rfl ?_
    refine am_bipush dX5_noRow_13 bp_m2 ?_
    obtain ⟨r12, c11, h⟩ := am_bnd h
    refine am_callVi (as := [.inl (-2 : Int32)]) dX5_noRow_15 cv_RX5_103 cb_X5_refuse sh_5 rfl hk_5 rfl rfl (Nat.le_of_ble_eq_true rfl) (c_X5_refuse c11) ?_
    obtain rfl := Option.some.inj h
    exact am_ireturn dX5_noRow_18 rfl rfl hp
theorem c_X5_noRow {K : am_K} {d : Nat} {M : am_M} {o : Nat} {x1 : Int32} {y : Int32 × am_M} (h : f_X5_noRow M o x1 = some y) : am_Met K (d + 1) m_X5_noRow [.inr (.inr (5, o, 0)), .inl x1] M (fun q N => q = some (.inl y.1) ∧ N = y.2) :=
  am_Met_of cb_X5_noRow (Nat.le_of_ble_eq_true rfl) (w_X5_noRow h ⟨rfl, rfl⟩)
def f_X5_set (M : am_M) (o : Nat) (x1 : Int32) (x2 : Int32) (x3 : Int64) : Option (Int32 × am_M) :=
  (f_X5_noRow M o x1).bind (fun r2 => am_let r2.1 (fun v3 => (if v3 = 0 then if am_inb x1 8 = true then (f_X5_in r2.2 x2.toInt64 (0 : Int64) (((r2.2.1 602 o 0 x1.toNatClampNeg) - (1 : Int32)).toInt64)).bind (fun r6 => (if r6 = 0 then (f_X5_refuse r2.2 o (-2 : Int32)).bind (fun r14 => some (r14.1, r14.2)) else if am_inb x1 8 = true then if am_inb x1 8 = true then (f_X5_fit r2.2 (r2.2.1 601 o 0 x1.toNatClampNeg) x3).bind (fun r10 => if am_inb x2 40 = true then am_let (am_sl r2.2 703 o x1.toNatClampNeg x2.toNatClampNeg r10) (fun M12 => some ((1 : Int32), M12)) else none) else none else none)) else none else some (v3, r2.2))))
set_option maxHeartbeats 4000000 in
theorem w_X5_set {K : am_K} {d : Nat} {post : Option am_V → am_M → Prop} {M : am_M} {o : Nat} {x1 : Int32} {x2 : Int32} {x3 : Int64} {y : Int32 × am_M} (h : f_X5_set M o x1 x2 x3 = some y) (hp : post (some (.inl y.1)) y.2) : am_W K (d + 2) m_X5_set 0 [(0, .inr (.inr (5, o, 0))), (1, .inl x1), (2, .inl x2), (3, .inr (.inl x3))] [] M post := by
  unfold f_X5_set at h
  refine am_aload_n dX5_set_0 rfl ?_
  refine am_iload_n dX5_set_1 rfl ?_
  obtain ⟨r2, c1, h⟩ := am_bnd h
  refine am_callVi (as := [.inl x1]) dX5_set_2 cv_RX5_107 cb_X5_noRow sh_5 rfl hk_5 rfl rfl (Nat.le_of_ble_eq_true rfl) (c_X5_noRow c1) ?_
  obtain ⟨v3, ev3, h⟩ := am_letE h
  refine am_topI ev3 ?_
  refine am_istore (ls' := [(0, .inr (.inr (5, o, 0))), (1, .inl x1), (2, .inl x2), (3, .inr (.inl x3)), (5, .inl v3)]) dX5_set_5 (Nat.le_of_ble_eq_true rfl) rfl ?_
  refine am_iload dX5_set_7 rfl ?_
  refine am_if_eq 15 dX5_set_9 rfl (fun b16 => ?_) (fun b16 => ?_)
  · replace h := am_ifT b16 h
    refine am_iload_n dX5_set_15 rfl ?_
    refine am_i2l dX5_set_16 ?_
    refine am_lconst dX5_set_17 lc_0 ?_
    refine am_aload_n dX5_set_18 rfl ?_
    refine am_getR (o' := o) dX5_set_19 fl_RX5_16 sh_5 rfl rfl hk_5 ?_
    refine am_iload_n dX5_set_22 rfl ?_
    obtain ⟨g4, h⟩ := am_grd h
    refine am_iaload dX5_set_23 sh_602 hk_602 (am_inbE g4) ?_
    refine am_iconst dX5_set_24 ic_1 ?_
    refine am_isub dX5_set_25 ?_
    refine am_i2l dX5_set_26 ?_
    obtain ⟨r6, c5, h⟩ := am_bnd h
    refine am_callSi (as := [.inr (.inl x2.toInt64), .inr (.inl (0 : Int64)), .inr (.inl (((r2.2.1 602 o 0 x1.toNatClampNeg) - (1 : Int32)).toInt64))]) dX5_set_27 cs_RX5_95 cb_X5_in rfl rfl (Nat.le_of_ble_eq_true rfl) (c_X5_in c5) ?_
    refine am_if_ne 40 dX5_set_30 rfl (fun b15 => ?_) (fun b15 => ?_)
    · replace h := am_ifF b15 h
      refine am_aload_n dX5_set_40 rfl ?_
      refine am_getR (o' := o) dX5_set_41 fl_RX5_21 sh_5 rfl rfl hk_5 ?_
      refine am_iload_n dX5_set_44 rfl ?_
      obtain ⟨g7, h⟩ := am_grd h
      refine am_aaload dX5_set_45 sh_603 rfl rfl hk_603 (am_inbE g7) ?_
      refine am_top (w := .inr (.inr (703, o, x1.toNatClampNeg))) rfl ?_
      refine am_iload_n dX5_set_46 rfl ?_
      refine am_aload_n dX5_set_47 rfl ?_
      refine am_getR (o' := o) dX5_set_48 fl_RX5_13 sh_5 rfl rfl hk_5 ?_
      refine am_iload_n dX5_set_51 rfl ?_
      obtain ⟨g8, h⟩ := am_grd h
      refine am_iaload dX5_set_52 sh_601 hk_601 (am_inbE g8) ?_
      refine am_lload_n dX5_set_53 rfl ?_
      obtain ⟨r10, c9, h⟩ := am_bnd h
      refine am_callSl (as := [.inl (r2.2.1 601 o 0 x1.toNatClampNeg), .inr (.inl x3)]) dX5_set_54 cs_RX5_110 cb_X5_fit rfl rfl (Nat.le_of_ble_eq_true rfl) (c_X5_fit c9) ?_
      obtain ⟨g11, h⟩ := am_grd h
      obtain ⟨M12, eM12, h⟩ := am_letE h
      refine am_lastore dX5_set_57 sh_703 hk_703 (am_inbE g11) ?_
      refine am_mem eM12 ?_
      refine am_iconst dX5_set_58 ic_1 ?_
      obtain rfl := Option.some.inj h
      exact am_ireturn dX5_set_59 rfl rfl hp
    · replace h := am_ifT b15 h
      refine am_aload_n dX5_set_33 rfl ?_
      refine am_bipush dX5_set_34 bp_m2 ?_
      obtain ⟨r14, c13, h⟩ := am_bnd h
      refine am_callVi (as := [.inl (-2 : Int32)]) dX5_set_36 cv_RX5_103 cb_X5_refuse sh_5 rfl hk_5 rfl rfl (Nat.le_of_ble_eq_true rfl) (c_X5_refuse c13) ?_
      obtain rfl := Option.some.inj h
      exact am_ireturn dX5_set_39 rfl rfl hp
  · replace h := am_ifF b16 h
    refine am_iload dX5_set_12 rfl ?_
    obtain rfl := Option.some.inj h
    exact am_ireturn dX5_set_14 rfl rfl hp
theorem c_X5_set {K : am_K} {d : Nat} {M : am_M} {o : Nat} {x1 : Int32} {x2 : Int32} {x3 : Int64} {y : Int32 × am_M} (h : f_X5_set M o x1 x2 x3 = some y) : am_Met K (d + 2) m_X5_set [.inr (.inr (5, o, 0)), .inl x1, .inl x2, .inr (.inl x3)] M (fun q N => q = some (.inl y.1) ∧ N = y.2) :=
  am_Met_of cb_X5_set (Nat.le_of_ble_eq_true rfl) (w_X5_set h ⟨rfl, rfl⟩)
def f_X5_noRows (M : am_M) (o : Nat) (x1 : Int32) (x2 : Int32) (x3 : Int32) : Option (Int32 × am_M) :=
  (f_X5_in M x1.toInt64 (0 : Int64) (7 : Int64)).bind (fun r2 => (if r2 = 0 then (f_X5_refuse M o (-2 : Int32)).bind (fun r4 => some (r4.1, r4.2)) else (f_X5_in M x2.toInt64 (0 : Int64) (7 : Int64)).bind (fun r6 => (if r6 = 0 then (f_X5_refuse M o (-2 : Int32)).bind (fun r58 => some (r58.1, r58.2)) else if am_inb x1 8 = true then (if (M.1 600 o 0 x1.toNatClampNeg) = (2 : Int32) then (f_X5_refuse M o (-3 : Int32)).bind (fun r9 => some (r9.1, r9.2)) else if am_inb x2 8 = true then (if (M.1 600 o 0 x2.toNatClampNeg) = (2 : Int32) then (f_X5_refuse M o (-3 : Int32)).bind (fun r12 => some (r12.1, r12.2)) else (if x3 = 0 then if am_inb x1 8 = true then (if (M.1 600 o 0 x1.toNatClampNeg) = 0 then (f_X5_refuse M o (-4 : Int32)).bind (fun r15 => some (r15.1, r15.2)) else if am_inb x2 8 = true then (if (M.1 600 o 0 x2.toNatClampNeg) = 0 then (f_X5_refuse M o (-4 : Int32)).bind (fun r18 => some (r18.1, r18.2)) else some ((0 : Int32), M)) else none) else none else if am_inb x1 8 = true then (if (M.1 600 o 0 x1.toNatClampNeg) = (1 : Int32) then if am_inb x2 8 = true then (if (M.1 600 o 0 x2.toNatClampNeg) = (1 : Int32) then if am_inb x1 8 = true then if am_inb x2 8 = true then (if (M.1 601 o 0 x1.toNatClampNeg) = (M.1 601 o 0 x2.toNatClampNeg) then if am_inb x1 8 = true then (if (M.1 600 o 0 x1.toNatClampNeg) = 0 then (f_X5_refuse M o (-4 : Int32)).bind (fun r43 => some (r43.1, r43.2)) else if am_inb x2 8 = true then (if (M.1 600 o 0 x2.toNatClampNeg) = 0 then (f_X5_refuse M o (-4 : Int32)).bind (fun r46 => some (r46.1, r46.2)) else some ((0 : Int32), M)) else none) else none else (f_X5_refuse M o (-3 : Int32)).bind (fun r50 => some (r50.1, r50.2))) else none else none else if am_inb x1 8 = true then (if (M.1 600 o 0 x1.toNatClampNeg) = 0 then (f_X5_refuse M o (-4 : Int32)).bind (fun r33 => some (r33.1, r33.2)) else if am_inb x2 8 = true then (if (M.1 600 o 0 x2.toNatClampNeg) = 0 then (f_X5_refuse M o (-4 : Int32)).bind (fun r36 => some (r36.1, r36.2)) else some ((0 : Int32), M)) else none) else none) else none else if am_inb x1 8 = true then (if (M.1 600 o 0 x1.toNatClampNeg) = 0 then (f_X5_refuse M o (-4 : Int32)).bind (fun r24 => some (r24.1, r24.2)) else if am_inb x2 8 = true then (if (M.1 600 o 0 x2.toNatClampNeg) = 0 then (f_X5_refuse M o (-4 : Int32)).bind (fun r27 => some (r27.1, r27.2)) else some ((0 : Int32), M)) else none) else none) else none)) else none) else none))))
set_option maxHeartbeats 4000000 in
theorem w_X5_noRows {K : am_K} {d : Nat} {post : Option am_V → am_M → Prop} {M : am_M} {o : Nat} {x1 : Int32} {x2 : Int32} {x3 : Int32} {y : Int32 × am_M} (h : f_X5_noRows M o x1 x2 x3 = some y) (hp : post (some (.inl y.1)) y.2) : am_W K (d + 1) m_X5_noRows 0 [(0, .inr (.inr (5, o, 0))), (1, .inl x1), (2, .inl x2), (3, .inl x3)] [] M post := by
  unfold f_X5_noRows at h
  refine am_iload_n dX5_noRows_0 rfl ?_
  refine am_i2l dX5_noRows_1 ?_
  refine am_lconst dX5_noRows_2 lc_0 ?_
  refine am_ldc2 dX5_noRows_3 kc_RX5_93 ?_
  obtain ⟨r2, c1, h⟩ := am_bnd h
  refine am_callSi (as := [.inr (.inl x1.toInt64), .inr (.inl (0 : Int64)), .inr (.inl (7 : Int64))]) dX5_noRows_6 cs_RX5_95 cb_X5_in rfl rfl (Nat.le_of_ble_eq_true rfl) (c_X5_in c1) ?_
  refine am_if_eq 24 dX5_noRows_9 rfl (fun b60 => ?_) (fun b60 => ?_)
  · replace h := am_ifT b60 h
    refine am_aload_n dX5_noRows_24 rfl ?_
    refine am_bipush dX5_noRows_25 bp_m2 ?_
    obtain ⟨r4, c3, h⟩ := am_bnd h
    refine am_callVi (as := [.inl (-2 : Int32)]) dX5_noRows_27 cv_RX5_103 cb_X5_refuse sh_5 rfl hk_5 rfl rfl (Nat.le_of_ble_eq_true rfl) (c_X5_refuse c3) ?_
    obtain rfl := Option.some.inj h
    exact am_ireturn dX5_noRows_30 rfl rfl hp
  · replace h := am_ifF b60 h
    refine am_iload_n dX5_noRows_12 rfl ?_
    refine am_i2l dX5_noRows_13 ?_
    refine am_lconst dX5_noRows_14 lc_0 ?_
    refine am_ldc2 dX5_noRows_15 kc_RX5_93 ?_
    obtain ⟨r6, c5, h⟩ := am_bnd h
    refine am_callSi (as := [.inr (.inl x2.toInt64), .inr (.inl (0 : Int64)), .inr (.inl (7 : Int64))]) dX5_noRows_18 cs_RX5_95 cb_X5_in rfl rfl (Nat.le_of_ble_eq_true rfl) (c_X5_in c5) ?_
    refine am_if_ne 31 dX5_noRows_21 rfl (fun b59 => ?_) (fun b59 => ?_)
    · replace h := am_ifF b59 h
      refine am_aload_n dX5_noRows_31 rfl ?_
      refine am_getR (o' := o) dX5_noRows_32 fl_RX5_7 sh_5 rfl rfl hk_5 ?_
      refine am_iload_n dX5_noRows_35 rfl ?_
      obtain ⟨g7, h⟩ := am_grd h
      refine am_iaload dX5_noRows_36 sh_600 hk_600 (am_inbE g7) ?_
      refine am_iconst dX5_noRows_37 ic_2 ?_
      refine am_icmp_eq 90 dX5_noRows_38 rfl (fun b56 => ?_) (fun b56 => ?_)
      · replace h := am_ifT b56 h
        refine am_aload_n dX5_noRows_90 rfl ?_
        refine am_bipush dX5_noRows_91 bp_m3 ?_
        obtain ⟨r9, c8, h⟩ := am_bnd h
        refine am_callVi (as := [.inl (-3 : Int32)]) dX5_noRows_93 cv_RX5_103 cb_X5_refuse sh_5 rfl hk_5 rfl rfl (Nat.le_of_ble_eq_true rfl) (c_X5_refuse c8) ?_
        obtain rfl := Option.some.inj h
        exact am_ireturn dX5_noRows_96 rfl rfl hp
      · replace h := am_ifF b56 h
        refine am_aload_n dX5_noRows_41 rfl ?_
        refine am_getR (o' := o) dX5_noRows_42 fl_RX5_7 sh_5 rfl rfl hk_5 ?_
        refine am_iload_n dX5_noRows_45 rfl ?_
        obtain ⟨g10, h⟩ := am_grd h
        refine am_iaload dX5_noRows_46 sh_600 hk_600 (am_inbE g10) ?_
        refine am_iconst dX5_noRows_47 ic_2 ?_
        refine am_icmp_eq 90 dX5_noRows_48 rfl (fun b55 => ?_) (fun b55 => ?_)
        · replace h := am_ifT b55 h
          refine am_aload_n dX5_noRows_90 rfl ?_
          refine am_bipush dX5_noRows_91 bp_m3 ?_
          obtain ⟨r12, c11, h⟩ := am_bnd h
          refine am_callVi (as := [.inl (-3 : Int32)]) dX5_noRows_93 cv_RX5_103 cb_X5_refuse sh_5 rfl hk_5 rfl rfl (Nat.le_of_ble_eq_true rfl) (c_X5_refuse c11) ?_
          obtain rfl := Option.some.inj h
          exact am_ireturn dX5_noRows_96 rfl rfl hp
        · replace h := am_ifF b55 h
          refine am_iload_n dX5_noRows_51 rfl ?_
          refine am_if_eq 97 dX5_noRows_52 rfl (fun b54 => ?_) (fun b54 => ?_)
          · replace h := am_ifT b54 h
            refine am_aload_n dX5_noRows_97 rfl ?_
            refine am_getR (o' := o) dX5_noRows_98 fl_RX5_7 sh_5 rfl rfl hk_5 ?_
            refine am_iload_n dX5_noRows_101 rfl ?_
            obtain ⟨g13, h⟩ := am_grd h
            refine am_iaload dX5_noRows_102 sh_600 hk_600 (am_inbE g13) ?_
            refine am_if_eq 115 dX5_noRows_103 rfl (fun b20 => ?_) (fun b20 => ?_)
            · replace h := am_ifT b20 h
              refine am_aload_n dX5_noRows_115 rfl ?_
              refine am_bipush dX5_noRows_116 bp_m4 ?_
              obtain ⟨r15, c14, h⟩ := am_bnd h
              refine am_callVi (as := [.inl (-4 : Int32)]) dX5_noRows_118 cv_RX5_103 cb_X5_refuse sh_5 rfl hk_5 rfl rfl (Nat.le_of_ble_eq_true rfl) (c_X5_refuse c14) ?_
              refine am_goto 125 dX5_noRows_121 rfl ?_
              obtain rfl := Option.some.inj h
              exact am_ireturn dX5_noRows_125 rfl rfl hp
            · replace h := am_ifF b20 h
              refine am_aload_n dX5_noRows_106 rfl ?_
              refine am_getR (o' := o) dX5_noRows_107 fl_RX5_7 sh_5 rfl rfl hk_5 ?_
              refine am_iload_n dX5_noRows_110 rfl ?_
              obtain ⟨g16, h⟩ := am_grd h
              refine am_iaload dX5_noRows_111 sh_600 hk_600 (am_inbE g16) ?_
              refine am_if_ne 124 dX5_noRows_112 rfl (fun b19 => ?_) (fun b19 => ?_)
              · replace h := am_ifF b19 h
                refine am_iconst dX5_noRows_124 ic_0 ?_
                obtain rfl := Option.some.inj h
                exact am_ireturn dX5_noRows_125 rfl rfl hp
              · replace h := am_ifT b19 h
                refine am_aload_n dX5_noRows_115 rfl ?_
                refine am_bipush dX5_noRows_116 bp_m4 ?_
                obtain ⟨r18, c17, h⟩ := am_bnd h
                refine am_callVi (as := [.inl (-4 : Int32)]) dX5_noRows_118 cv_RX5_103 cb_X5_refuse sh_5 rfl hk_5 rfl rfl (Nat.le_of_ble_eq_true rfl) (c_X5_refuse c17) ?_
                refine am_goto 125 dX5_noRows_121 rfl ?_
                obtain rfl := Option.some.inj h
                exact am_ireturn dX5_noRows_125 rfl rfl hp
          · replace h := am_ifF b54 h
            refine am_aload_n dX5_noRows_55 rfl ?_
            refine am_getR (o' := o) dX5_noRows_56 fl_RX5_7 sh_5 rfl rfl hk_5 ?_
            refine am_iload_n dX5_noRows_59 rfl ?_
            obtain ⟨g21, h⟩ := am_grd h
            refine am_iaload dX5_noRows_60 sh_600 hk_600 (am_inbE g21) ?_
            refine am_iconst dX5_noRows_61 ic_1 ?_
            refine am_icmp_ne 97 dX5_noRows_62 rfl (fun b53 => ?_) (fun b53 => ?_)
            · replace h := am_ifF b53 h
              refine am_aload_n dX5_noRows_97 rfl ?_
              refine am_getR (o' := o) dX5_noRows_98 fl_RX5_7 sh_5 rfl rfl hk_5 ?_
              refine am_iload_n dX5_noRows_101 rfl ?_
              obtain ⟨g22, h⟩ := am_grd h
              refine am_iaload dX5_noRows_102 sh_600 hk_600 (am_inbE g22) ?_
              refine am_if_eq 115 dX5_noRows_103 rfl (fun b29 => ?_) (fun b29 => ?_)
              · replace h := am_ifT b29 h
                refine am_aload_n dX5_noRows_115 rfl ?_
                refine am_bipush dX5_noRows_116 bp_m4 ?_
                obtain ⟨r24, c23, h⟩ := am_bnd h
                refine am_callVi (as := [.inl (-4 : Int32)]) dX5_noRows_118 cv_RX5_103 cb_X5_refuse sh_5 rfl hk_5 rfl rfl (Nat.le_of_ble_eq_true rfl) (c_X5_refuse c23) ?_
                refine am_goto 125 dX5_noRows_121 rfl ?_
                obtain rfl := Option.some.inj h
                exact am_ireturn dX5_noRows_125 rfl rfl hp
              · replace h := am_ifF b29 h
                refine am_aload_n dX5_noRows_106 rfl ?_
                refine am_getR (o' := o) dX5_noRows_107 fl_RX5_7 sh_5 rfl rfl hk_5 ?_
                refine am_iload_n dX5_noRows_110 rfl ?_
                obtain ⟨g25, h⟩ := am_grd h
                refine am_iaload dX5_noRows_111 sh_600 hk_600 (am_inbE g25) ?_
                refine am_if_ne 124 dX5_noRows_112 rfl (fun b28 => ?_) (fun b28 => ?_)
                · replace h := am_ifF b28 h
                  refine am_iconst dX5_noRows_124 ic_0 ?_
                  obtain rfl := Option.some.inj h
                  exact am_ireturn dX5_noRows_125 rfl rfl hp
                · replace h := am_ifT b28 h
                  refine am_aload_n dX5_noRows_115 rfl ?_
                  refine am_bipush dX5_noRows_116 bp_m4 ?_
                  obtain ⟨r27, c26, h⟩ := am_bnd h
                  refine am_callVi (as := [.inl (-4 : Int32)]) dX5_noRows_118 cv_RX5_103 cb_X5_refuse sh_5 rfl hk_5 rfl rfl (Nat.le_of_ble_eq_true rfl) (c_X5_refuse c26) ?_
                  refine am_goto 125 dX5_noRows_121 rfl ?_
                  obtain rfl := Option.some.inj h
                  exact am_ireturn dX5_noRows_125 rfl rfl hp
            · replace h := am_ifT b53 h
              refine am_aload_n dX5_noRows_65 rfl ?_
              refine am_getR (o' := o) dX5_noRows_66 fl_RX5_7 sh_5 rfl rfl hk_5 ?_
              refine am_iload_n dX5_noRows_69 rfl ?_
              obtain ⟨g30, h⟩ := am_grd h
              refine am_iaload dX5_noRows_70 sh_600 hk_600 (am_inbE g30) ?_
              refine am_iconst dX5_noRows_71 ic_1 ?_
              refine am_icmp_ne 97 dX5_noRows_72 rfl (fun b52 => ?_) (fun b52 => ?_)
              · replace h := am_ifF b52 h
                refine am_aload_n dX5_noRows_97 rfl ?_
                refine am_getR (o' := o) dX5_noRows_98 fl_RX5_7 sh_5 rfl rfl hk_5 ?_
                refine am_iload_n dX5_noRows_101 rfl ?_
                obtain ⟨g31, h⟩ := am_grd h
                refine am_iaload dX5_noRows_102 sh_600 hk_600 (am_inbE g31) ?_
                refine am_if_eq 115 dX5_noRows_103 rfl (fun b38 => ?_) (fun b38 => ?_)
                · replace h := am_ifT b38 h
                  refine am_aload_n dX5_noRows_115 rfl ?_
                  refine am_bipush dX5_noRows_116 bp_m4 ?_
                  obtain ⟨r33, c32, h⟩ := am_bnd h
                  refine am_callVi (as := [.inl (-4 : Int32)]) dX5_noRows_118 cv_RX5_103 cb_X5_refuse sh_5 rfl hk_5 rfl rfl (Nat.le_of_ble_eq_true rfl) (c_X5_refuse c32) ?_
                  refine am_goto 125 dX5_noRows_121 rfl ?_
                  obtain rfl := Option.some.inj h
                  exact am_ireturn dX5_noRows_125 rfl rfl hp
                · replace h := am_ifF b38 h
                  refine am_aload_n dX5_noRows_106 rfl ?_
                  refine am_getR (o' := o) dX5_noRows_107 fl_RX5_7 sh_5 rfl rfl hk_5 ?_
                  refine am_iload_n dX5_noRows_110 rfl ?_
                  obtain ⟨g34, h⟩ := am_grd h
                  refine am_iaload dX5_noRows_111 sh_600 hk_600 (am_inbE g34) ?_
                  refine am_if_ne 124 dX5_noRows_112 rfl (fun b37 => ?_) (fun b37 => ?_)
                  · replace h := am_ifF b37 h
                    refine am_iconst dX5_noRows_124 ic_0 ?_
                    obtain rfl := Option.some.inj h
                    exact am_ireturn dX5_noRows_125 rfl rfl hp
                  · replace h := am_ifT b37 h
                    refine am_aload_n dX5_noRows_115 rfl ?_
                    refine am_bipush dX5_noRows_116 bp_m4 ?_
                    obtain ⟨r36, c35, h⟩ := am_bnd h
                    refine am_callVi (as := [.inl (-4 : Int32)]) dX5_noRows_118 cv_RX5_103 cb_X5_refuse sh_5 rfl hk_5 rfl rfl (Nat.le_of_ble_eq_true rfl) (c_X5_refuse c35) ?_
                    refine am_goto 125 dX5_noRows_121 rfl ?_
                    obtain rfl := Option.some.inj h
                    exact am_ireturn dX5_noRows_125 rfl rfl hp
              · replace h := am_ifT b52 h
                refine am_aload_n dX5_noRows_75 rfl ?_
                refine am_getR (o' := o) dX5_noRows_76 fl_RX5_13 sh_5 rfl rfl hk_5 ?_
                refine am_iload_n dX5_noRows_79 rfl ?_
                obtain ⟨g39, h⟩ := am_grd h
                refine am_iaload dX5_noRows_80 sh_601 hk_601 (am_inbE g39) ?_
                refine am_aload_n dX5_noRows_81 rfl ?_
                refine am_getR (o' := o) dX5_noRows_82 fl_RX5_13 sh_5 rfl rfl hk_5 ?_
                refine am_iload_n dX5_noRows_85 rfl ?_
                obtain ⟨g40, h⟩ := am_grd h
                refine am_iaload dX5_noRows_86 sh_601 hk_601 (am_inbE g40) ?_
                refine am_icmp_eq 97 dX5_noRows_87 rfl (fun b51 => ?_) (fun b51 => ?_)
                · replace h := am_ifT b51 h
                  refine am_aload_n dX5_noRows_97 rfl ?_
                  refine am_getR (o' := o) dX5_noRows_98 fl_RX5_7 sh_5 rfl rfl hk_5 ?_
                  refine am_iload_n dX5_noRows_101 rfl ?_
                  obtain ⟨g41, h⟩ := am_grd h
                  refine am_iaload dX5_noRows_102 sh_600 hk_600 (am_inbE g41) ?_
                  refine am_if_eq 115 dX5_noRows_103 rfl (fun b48 => ?_) (fun b48 => ?_)
                  · replace h := am_ifT b48 h
                    refine am_aload_n dX5_noRows_115 rfl ?_
                    refine am_bipush dX5_noRows_116 bp_m4 ?_
                    obtain ⟨r43, c42, h⟩ := am_bnd h
                    refine am_callVi (as := [.inl (-4 : Int32)]) dX5_noRows_118 cv_RX5_103 cb_X5_refuse sh_5 rfl hk_5 rfl rfl (Nat.le_of_ble_eq_true rfl) (c_X5_refuse c42) ?_
                    refine am_goto 125 dX5_noRows_121 rfl ?_
                    obtain rfl := Option.some.inj h
                    exact am_ireturn dX5_noRows_125 rfl rfl hp
                  · replace h := am_ifF b48 h
                    refine am_aload_n dX5_noRows_106 rfl ?_
                    refine am_getR (o' := o) dX5_noRows_107 fl_RX5_7 sh_5 rfl rfl hk_5 ?_
                    refine am_iload_n dX5_noRows_110 rfl ?_
                    obtain ⟨g44, h⟩ := am_grd h
                    refine am_iaload dX5_noRows_111 sh_600 hk_600 (am_inbE g44) ?_
                    refine am_if_ne 124 dX5_noRows_112 rfl (fun b47 => ?_) (fun b47 => ?_)
                    · replace h := am_ifF b47 h
                      refine am_iconst dX5_noRows_124 ic_0 ?_
                      obtain rfl := Option.some.inj h
                      exact am_ireturn dX5_noRows_125 rfl rfl hp
                    · replace h := am_ifT b47 h
                      refine am_aload_n dX5_noRows_115 rfl ?_
                      refine am_bipush dX5_noRows_116 bp_m4 ?_
                      obtain ⟨r46, c45, h⟩ := am_bnd h
                      refine am_callVi (as := [.inl (-4 : Int32)]) dX5_noRows_118 cv_RX5_103 cb_X5_refuse sh_5 rfl hk_5 rfl rfl (Nat.le_of_ble_eq_true rfl) (c_X5_refuse c45) ?_
                      refine am_goto 125 dX5_noRows_121 rfl ?_
                      obtain rfl := Option.some.inj h
                      exact am_ireturn dX5_noRows_125 rfl rfl hp
                · replace h := am_ifF b51 h
                  refine am_aload_n dX5_noRows_90 rfl ?_
                  refine am_bipush dX5_noRows_91 bp_m3 ?_
                  obtain ⟨r50, c49, h⟩ := am_bnd h
                  refine am_callVi (as := [.inl (-3 : Int32)]) dX5_noRows_93 cv_RX5_103 cb_X5_refuse sh_5 rfl hk_5 rfl rfl (Nat.le_of_ble_eq_true rfl) (c_X5_refuse c49) ?_
                  obtain rfl := Option.some.inj h
                  exact am_ireturn dX5_noRows_96 rfl rfl hp
    · replace h := am_ifT b59 h
      refine am_aload_n dX5_noRows_24 rfl ?_
      refine am_bipush dX5_noRows_25 bp_m2 ?_
      obtain ⟨r58, c57, h⟩ := am_bnd h
      refine am_callVi (as := [.inl (-2 : Int32)]) dX5_noRows_27 cv_RX5_103 cb_X5_refuse sh_5 rfl hk_5 rfl rfl (Nat.le_of_ble_eq_true rfl) (c_X5_refuse c57) ?_
      obtain rfl := Option.some.inj h
      exact am_ireturn dX5_noRows_30 rfl rfl hp
theorem c_X5_noRows {K : am_K} {d : Nat} {M : am_M} {o : Nat} {x1 : Int32} {x2 : Int32} {x3 : Int32} {y : Int32 × am_M} (h : f_X5_noRows M o x1 x2 x3 = some y) : am_Met K (d + 1) m_X5_noRows [.inr (.inr (5, o, 0)), .inl x1, .inl x2, .inl x3] M (fun q N => q = some (.inl y.1) ∧ N = y.2) :=
  am_Met_of cb_X5_noRows (Nat.le_of_ble_eq_true rfl) (w_X5_noRows h ⟨rfl, rfl⟩)
def l_X5_copy_90 (o0a : Nat) (a1 : Int32) (a2 : Int32) (a3 : Int32) (a4 : Int32) (a5 : Int32) : Nat → Int32 → am_M → Option (am_M)
  | 0, _, _ => none
  | n + 1, a7, M => (if a5 ≤ a7 then some M else if am_inb a1 8 = true then if am_inb (a3 + a7) 40 = true then if am_inb a7 40 = true then am_let (am_sl M 604 o0a 0 a7.toNatClampNeg (M.2 703 o0a a1.toNatClampNeg (a3 + a7).toNatClampNeg)) (fun M23 => am_let (a7 + (1 : Int32)) (fun v24 => l_X5_copy_90 o0a a1 a2 a3 a4 a5 n v24 M23)) else none else none else none)
set_option maxHeartbeats 4000000 in
theorem wl_X5_copy_90 {K : am_K} {d : Nat} {post : Option am_V → am_M → Prop} {o0a : Nat} {a1 : Int32} {a2 : Int32} {a3 : Int32} {a4 : Int32} {a5 : Int32} : ∀ (n : Nat) (a7 : Int32) (M : am_M) (x : am_M), l_X5_copy_90 o0a a1 a2 a3 a4 a5 n a7 M = some x → am_W K (d + 2) m_X5_copy 121 [(0, .inr (.inr (5, o0a, 0))), (2, .inl a2), (4, .inl a4), (5, .inl a5)] [] x post → am_W K (d + 2) m_X5_copy 90 [(0, .inr (.inr (5, o0a, 0))), (1, .inl a1), (2, .inl a2), (3, .inl a3), (4, .inl a4), (5, .inl a5), (7, .inl a7)] [] M post := by
  intro n
  induction n with
  | zero => intro a7 M x h KX; cases h
  | succ n ih =>
    intro a7 M x h KX
    rw [l_X5_copy_90] at h
    refine am_iload dX5_copy_90 rfl ?_
    refine am_iload dX5_copy_92 rfl ?_
    refine am_icmp_ge 121 dX5_copy_94 rfl (fun b25 => ?_) (fun b25 => ?_)
    · replace h := am_ifT b25 h
      obtain rfl := Option.some.inj h
      exact am_drop [0, 2, 4, 5] rfl KX
    · replace h := am_ifF b25 h
      refine am_aload_n dX5_copy_97 rfl ?_
      refine am_getR (o' := o0a) dX5_copy_98 fl_RX5_24 sh_5 rfl rfl hk_5 ?_
      refine am_iload dX5_copy_101 rfl ?_
      refine am_aload_n dX5_copy_103 rfl ?_
      refine am_getR (o' := o0a) dX5_copy_104 fl_RX5_21 sh_5 rfl rfl hk_5 ?_
      refine am_iload_n dX5_copy_107 rfl ?_
      obtain ⟨g20, h⟩ := am_grd h
      refine am_aaload dX5_copy_108 sh_603 rfl rfl hk_603 (am_inbE g20) ?_
      refine am_top (w := .inr (.inr (703, o0a, a1.toNatClampNeg))) rfl ?_
      refine am_iload_n dX5_copy_109 rfl ?_
      refine am_iload dX5_copy_110 rfl ?_
      refine am_iadd dX5_copy_112 ?_
      obtain ⟨g21, h⟩ := am_grd h
      refine am_laload dX5_copy_113 sh_703 hk_703 (am_inbE g21) ?_
      obtain ⟨g22, h⟩ := am_grd h
      obtain ⟨M23, eM23, h⟩ := am_letE h
      refine am_lastore dX5_copy_114 sh_604 hk_604 (am_inbE g22) ?_
      refine am_mem eM23 ?_
      obtain ⟨v24, ev24, h⟩ := am_letE h
      refine am_iinc (ls' := [(0, .inr (.inr (5, o0a, 0))), (1, .inl a1), (2, .inl a2), (3, .inl a3), (4, .inl a4), (5, .inl a5), (7, .inl v24)]) dX5_copy_115 rfl ((congrArg (fun z => a7 + z) ic_1).trans ev24.symm) (Nat.le_of_ble_eq_true rfl) rfl ?_
      refine am_goto 90 dX5_copy_118 rfl ?_
      exact am_drop [0, 1, 2, 3, 4, 5, 7] rfl (ih _ _ _ h KX)
def l_X5_copy_124 (o0a : Nat) (a2 : Int32) (a4 : Int32) (a5 : Int32) : Nat → Int32 → am_M → Option (am_M)
  | 0, _, _ => none
  | n + 1, a7, M => (if a5 ≤ a7 then some M else if am_inb a2 8 = true then if am_inb a7 40 = true then if am_inb (a4 + a7) 40 = true then am_let (am_sl M 703 o0a a2.toNatClampNeg (a4 + a7).toNatClampNeg (M.2 604 o0a 0 a7.toNatClampNeg)) (fun M32 => am_let (a7 + (1 : Int32)) (fun v33 => l_X5_copy_124 o0a a2 a4 a5 n v33 M32)) else none else none else none)
set_option maxHeartbeats 4000000 in
theorem wl_X5_copy_124 {K : am_K} {d : Nat} {post : Option am_V → am_M → Prop} {o0a : Nat} {a2 : Int32} {a4 : Int32} {a5 : Int32} : ∀ (n : Nat) (a7 : Int32) (M : am_M) (x : am_M), l_X5_copy_124 o0a a2 a4 a5 n a7 M = some x → am_W K (d + 2) m_X5_copy 156 [(5, .inl a5)] [] x post → am_W K (d + 2) m_X5_copy 124 [(0, .inr (.inr (5, o0a, 0))), (2, .inl a2), (4, .inl a4), (5, .inl a5), (7, .inl a7)] [] M post := by
  intro n
  induction n with
  | zero => intro a7 M x h KX; cases h
  | succ n ih =>
    intro a7 M x h KX
    rw [l_X5_copy_124] at h
    refine am_iload dX5_copy_124 rfl ?_
    refine am_iload dX5_copy_126 rfl ?_
    refine am_icmp_ge 156 dX5_copy_128 rfl (fun b34 => ?_) (fun b34 => ?_)
    · replace h := am_ifT b34 h
      obtain rfl := Option.some.inj h
      exact am_drop [5] rfl KX
    · replace h := am_ifF b34 h
      refine am_aload_n dX5_copy_131 rfl ?_
      refine am_getR (o' := o0a) dX5_copy_132 fl_RX5_21 sh_5 rfl rfl hk_5 ?_
      refine am_iload_n dX5_copy_135 rfl ?_
      obtain ⟨g29, h⟩ := am_grd h
      refine am_aaload dX5_copy_136 sh_603 rfl rfl hk_603 (am_inbE g29) ?_
      refine am_top (w := .inr (.inr (703, o0a, a2.toNatClampNeg))) rfl ?_
      refine am_iload dX5_copy_137 rfl ?_
      refine am_iload dX5_copy_139 rfl ?_
      refine am_iadd dX5_copy_141 ?_
      refine am_aload_n dX5_copy_142 rfl ?_
      refine am_getR (o' := o0a) dX5_copy_143 fl_RX5_24 sh_5 rfl rfl hk_5 ?_
      refine am_iload dX5_copy_146 rfl ?_
      obtain ⟨g30, h⟩ := am_grd h
      refine am_laload dX5_copy_148 sh_604 hk_604 (am_inbE g30) ?_
      obtain ⟨g31, h⟩ := am_grd h
      obtain ⟨M32, eM32, h⟩ := am_letE h
      refine am_lastore dX5_copy_149 sh_703 hk_703 (am_inbE g31) ?_
      refine am_mem eM32 ?_
      obtain ⟨v33, ev33, h⟩ := am_letE h
      refine am_iinc (ls' := [(0, .inr (.inr (5, o0a, 0))), (2, .inl a2), (4, .inl a4), (5, .inl a5), (7, .inl v33)]) dX5_copy_150 rfl ((congrArg (fun z => a7 + z) ic_1).trans ev33.symm) (Nat.le_of_ble_eq_true rfl) rfl ?_
      refine am_goto 124 dX5_copy_153 rfl ?_
      exact am_drop [0, 2, 4, 5, 7] rfl (ih _ _ _ h KX)
def f_X5_copy (M : am_M) (o : Nat) (x1 : Int32) (x2 : Int32) (x3 : Int32) (x4 : Int32) (x5 : Int32) : Option (Int32 × am_M) :=
  (f_X5_noRows M o x1 x2 (1 : Int32)).bind (fun r2 => am_let r2.1 (fun v3 => (if v3 = 0 then (if x5 < 0 then (f_X5_refuse r2.2 o (-2 : Int32)).bind (fun r5 => some (r5.1, r5.2)) else (if x3 < 0 then (f_X5_refuse r2.2 o (-2 : Int32)).bind (fun r7 => some (r7.1, r7.2)) else (if x4 < 0 then (f_X5_refuse r2.2 o (-2 : Int32)).bind (fun r9 => some (r9.1, r9.2)) else if am_inb x1 8 = true then (if (r2.2.1 602 o 0 x1.toNatClampNeg) < x5 then (f_X5_refuse r2.2 o (-2 : Int32)).bind (fun r12 => some (r12.1, r12.2)) else if am_inb x2 8 = true then (if (r2.2.1 602 o 0 x2.toNatClampNeg) < x5 then (f_X5_refuse r2.2 o (-2 : Int32)).bind (fun r15 => some (r15.1, r15.2)) else if am_inb x1 8 = true then (if ((r2.2.1 602 o 0 x1.toNatClampNeg) - x5) < x3 then (f_X5_refuse r2.2 o (-2 : Int32)).bind (fun r18 => some (r18.1, r18.2)) else if am_inb x2 8 = true then (if x4 ≤ ((r2.2.1 602 o 0 x2.toNatClampNeg) - x5) then (l_X5_copy_90 o x1 x2 x3 x4 x5 1000 (0 : Int32) r2.2).bind (fun z26 => (l_X5_copy_124 o x2 x4 x5 1000 (0 : Int32) z26).bind (fun z35 => some (x5, z35))) else (f_X5_refuse r2.2 o (-2 : Int32)).bind (fun r39 => some (r39.1, r39.2))) else none) else none) else none) else none))) else some (v3, r2.2))))
set_option maxHeartbeats 4000000 in
theorem w_X5_copy {K : am_K} {d : Nat} {post : Option am_V → am_M → Prop} {M : am_M} {o : Nat} {x1 : Int32} {x2 : Int32} {x3 : Int32} {x4 : Int32} {x5 : Int32} {y : Int32 × am_M} (h : f_X5_copy M o x1 x2 x3 x4 x5 = some y) (hp : post (some (.inl y.1)) y.2) : am_W K (d + 2) m_X5_copy 0 [(0, .inr (.inr (5, o, 0))), (1, .inl x1), (2, .inl x2), (3, .inl x3), (4, .inl x4), (5, .inl x5)] [] M post := by
  unfold f_X5_copy at h
  refine am_aload_n dX5_copy_0 rfl ?_
  refine am_iload_n dX5_copy_1 rfl ?_
  refine am_iload_n dX5_copy_2 rfl ?_
  refine am_iconst dX5_copy_3 ic_1 ?_
  obtain ⟨r2, c1, h⟩ := am_bnd h
  refine am_callVi (as := [.inl x1, .inl x2, .inl (1 : Int32)]) dX5_copy_4 cv_RX5_114 cb_X5_noRows sh_5 rfl hk_5 rfl rfl (Nat.le_of_ble_eq_true rfl) (c_X5_noRows c1) ?_
  obtain ⟨v3, ev3, h⟩ := am_letE h
  refine am_topI ev3 ?_
  refine am_istore (ls' := [(0, .inr (.inr (5, o, 0))), (1, .inl x1), (2, .inl x2), (3, .inl x3), (4, .inl x4), (5, .inl x5), (6, .inl v3)]) dX5_copy_7 (Nat.le_of_ble_eq_true rfl) rfl ?_
  refine am_iload dX5_copy_9 rfl ?_
  refine am_if_eq 17 dX5_copy_11 rfl (fun b47 => ?_) (fun b47 => ?_)
  · replace h := am_ifT b47 h
    refine am_iload dX5_copy_17 rfl ?_
    refine am_if_lt 80 dX5_copy_19 rfl (fun b46 => ?_) (fun b46 => ?_)
    · replace h := am_ifT b46 h
      refine am_aload_n dX5_copy_80 rfl ?_
      refine am_bipush dX5_copy_81 bp_m2 ?_
      obtain ⟨r5, c4, h⟩ := am_bnd h
      refine am_callVi (as := [.inl (-2 : Int32)]) dX5_copy_83 cv_RX5_103 cb_X5_refuse sh_5 rfl hk_5 rfl rfl (Nat.le_of_ble_eq_true rfl) (c_X5_refuse c4) ?_
      obtain rfl := Option.some.inj h
      exact am_ireturn dX5_copy_86 rfl rfl hp
    · replace h := am_ifF b46 h
      refine am_iload_n dX5_copy_22 rfl ?_
      refine am_if_lt 80 dX5_copy_23 rfl (fun b45 => ?_) (fun b45 => ?_)
      · replace h := am_ifT b45 h
        refine am_aload_n dX5_copy_80 rfl ?_
        refine am_bipush dX5_copy_81 bp_m2 ?_
        obtain ⟨r7, c6, h⟩ := am_bnd h
        refine am_callVi (as := [.inl (-2 : Int32)]) dX5_copy_83 cv_RX5_103 cb_X5_refuse sh_5 rfl hk_5 rfl rfl (Nat.le_of_ble_eq_true rfl) (c_X5_refuse c6) ?_
        obtain rfl := Option.some.inj h
        exact am_ireturn dX5_copy_86 rfl rfl hp
      · replace h := am_ifF b45 h
        refine am_iload dX5_copy_26 rfl ?_
        refine am_if_lt 80 dX5_copy_28 rfl (fun b44 => ?_) (fun b44 => ?_)
        · replace h := am_ifT b44 h
          refine am_aload_n dX5_copy_80 rfl ?_
          refine am_bipush dX5_copy_81 bp_m2 ?_
          obtain ⟨r9, c8, h⟩ := am_bnd h
          refine am_callVi (as := [.inl (-2 : Int32)]) dX5_copy_83 cv_RX5_103 cb_X5_refuse sh_5 rfl hk_5 rfl rfl (Nat.le_of_ble_eq_true rfl) (c_X5_refuse c8) ?_
          obtain rfl := Option.some.inj h
          exact am_ireturn dX5_copy_86 rfl rfl hp
        · replace h := am_ifF b44 h
          refine am_iload dX5_copy_31 rfl ?_
          refine am_aload_n dX5_copy_33 rfl ?_
          refine am_getR (o' := o) dX5_copy_34 fl_RX5_16 sh_5 rfl rfl hk_5 ?_
          refine am_iload_n dX5_copy_37 rfl ?_
          obtain ⟨g10, h⟩ := am_grd h
          refine am_iaload dX5_copy_38 sh_602 hk_602 (am_inbE g10) ?_
          refine am_icmp_gt 80 dX5_copy_39 rfl (fun b43 => ?_) (fun b43 => ?_)
          · replace h := am_ifT b43 h
            refine am_aload_n dX5_copy_80 rfl ?_
            refine am_bipush dX5_copy_81 bp_m2 ?_
            obtain ⟨r12, c11, h⟩ := am_bnd h
            refine am_callVi (as := [.inl (-2 : Int32)]) dX5_copy_83 cv_RX5_103 cb_X5_refuse sh_5 rfl hk_5 rfl rfl (Nat.le_of_ble_eq_true rfl) (c_X5_refuse c11) ?_
            obtain rfl := Option.some.inj h
            exact am_ireturn dX5_copy_86 rfl rfl hp
          · replace h := am_ifF b43 h
            refine am_iload dX5_copy_42 rfl ?_
            refine am_aload_n dX5_copy_44 rfl ?_
            refine am_getR (o' := o) dX5_copy_45 fl_RX5_16 sh_5 rfl rfl hk_5 ?_
            refine am_iload_n dX5_copy_48 rfl ?_
            obtain ⟨g13, h⟩ := am_grd h
            refine am_iaload dX5_copy_49 sh_602 hk_602 (am_inbE g13) ?_
            refine am_icmp_gt 80 dX5_copy_50 rfl (fun b42 => ?_) (fun b42 => ?_)
            · replace h := am_ifT b42 h
              refine am_aload_n dX5_copy_80 rfl ?_
              refine am_bipush dX5_copy_81 bp_m2 ?_
              obtain ⟨r15, c14, h⟩ := am_bnd h
              refine am_callVi (as := [.inl (-2 : Int32)]) dX5_copy_83 cv_RX5_103 cb_X5_refuse sh_5 rfl hk_5 rfl rfl (Nat.le_of_ble_eq_true rfl) (c_X5_refuse c14) ?_
              obtain rfl := Option.some.inj h
              exact am_ireturn dX5_copy_86 rfl rfl hp
            · replace h := am_ifF b42 h
              refine am_iload_n dX5_copy_53 rfl ?_
              refine am_aload_n dX5_copy_54 rfl ?_
              refine am_getR (o' := o) dX5_copy_55 fl_RX5_16 sh_5 rfl rfl hk_5 ?_
              refine am_iload_n dX5_copy_58 rfl ?_
              obtain ⟨g16, h⟩ := am_grd h
              refine am_iaload dX5_copy_59 sh_602 hk_602 (am_inbE g16) ?_
              refine am_iload dX5_copy_60 rfl ?_
              refine am_isub dX5_copy_62 ?_
              refine am_icmp_gt 80 dX5_copy_63 rfl (fun b41 => ?_) (fun b41 => ?_)
              · replace h := am_ifT b41 h
                refine am_aload_n dX5_copy_80 rfl ?_
                refine am_bipush dX5_copy_81 bp_m2 ?_
                obtain ⟨r18, c17, h⟩ := am_bnd h
                refine am_callVi (as := [.inl (-2 : Int32)]) dX5_copy_83 cv_RX5_103 cb_X5_refuse sh_5 rfl hk_5 rfl rfl (Nat.le_of_ble_eq_true rfl) (c_X5_refuse c17) ?_
                obtain rfl := Option.some.inj h
                exact am_ireturn dX5_copy_86 rfl rfl hp
              · replace h := am_ifF b41 h
                refine am_iload dX5_copy_66 rfl ?_
                refine am_aload_n dX5_copy_68 rfl ?_
                refine am_getR (o' := o) dX5_copy_69 fl_RX5_16 sh_5 rfl rfl hk_5 ?_
                refine am_iload_n dX5_copy_72 rfl ?_
                obtain ⟨g19, h⟩ := am_grd h
                refine am_iaload dX5_copy_73 sh_602 hk_602 (am_inbE g19) ?_
                refine am_iload dX5_copy_74 rfl ?_
                refine am_isub dX5_copy_76 ?_
                refine am_icmp_le 87 dX5_copy_77 rfl (fun b40 => ?_) (fun b40 => ?_)
                · replace h := am_ifT b40 h
                  refine am_iconst dX5_copy_87 ic_0 ?_
                  refine am_istore (ls' := [(0, .inr (.inr (5, o, 0))), (1, .inl x1), (2, .inl x2), (3, .inl x3), (4, .inl x4), (5, .inl x5), (6, .inl v3), (7, .inl (0 : Int32))]) dX5_copy_88 (Nat.le_of_ble_eq_true rfl) rfl ?_
                  obtain ⟨z26, h27, h⟩ := am_bnd h
                  have KK28 : am_W K (d + 2) m_X5_copy 121 [(0, .inr (.inr (5, o, 0))), (2, .inl x2), (4, .inl x4), (5, .inl x5)] [] z26 post := by
                    refine am_iconst dX5_copy_121 ic_0 ?_
                    refine am_istore (ls' := [(0, .inr (.inr (5, o, 0))), (2, .inl x2), (4, .inl x4), (5, .inl x5), (7, .inl (0 : Int32))]) dX5_copy_122 (Nat.le_of_ble_eq_true rfl) rfl ?_
                    obtain ⟨z35, h36, h⟩ := am_bnd h
                    have KK37 : am_W K (d + 2) m_X5_copy 156 [(5, .inl x5)] [] z35 post := by
                      refine am_iload dX5_copy_156 rfl ?_
                      obtain rfl := Option.some.inj h
                      exact am_ireturn dX5_copy_158 rfl rfl hp
                    exact am_drop [0, 2, 4, 5, 7] rfl (wl_X5_copy_124 _ _ _ _ h36 KK37)
                  exact am_drop [0, 1, 2, 3, 4, 5, 7] rfl (wl_X5_copy_90 _ _ _ _ h27 KK28)
                · replace h := am_ifF b40 h
                  refine am_aload_n dX5_copy_80 rfl ?_
                  refine am_bipush dX5_copy_81 bp_m2 ?_
                  obtain ⟨r39, c38, h⟩ := am_bnd h
                  refine am_callVi (as := [.inl (-2 : Int32)]) dX5_copy_83 cv_RX5_103 cb_X5_refuse sh_5 rfl hk_5 rfl rfl (Nat.le_of_ble_eq_true rfl) (c_X5_refuse c38) ?_
                  obtain rfl := Option.some.inj h
                  exact am_ireturn dX5_copy_86 rfl rfl hp
  · replace h := am_ifF b47 h
    refine am_iload dX5_copy_14 rfl ?_
    obtain rfl := Option.some.inj h
    exact am_ireturn dX5_copy_16 rfl rfl hp
theorem c_X5_copy {K : am_K} {d : Nat} {M : am_M} {o : Nat} {x1 : Int32} {x2 : Int32} {x3 : Int32} {x4 : Int32} {x5 : Int32} {y : Int32 × am_M} (h : f_X5_copy M o x1 x2 x3 x4 x5 = some y) : am_Met K (d + 2) m_X5_copy [.inr (.inr (5, o, 0)), .inl x1, .inl x2, .inl x3, .inl x4, .inl x5] M (fun q N => q = some (.inl y.1) ∧ N = y.2) :=
  am_Met_of cb_X5_copy (Nat.le_of_ble_eq_true rfl) (w_X5_copy h ⟨rfl, rfl⟩)
def f_X5_element (M : am_M) (o : Nat) (x1 : Int32) (x2 : Int32) : Option (Int64) :=
  (f_X5_in M x1.toInt64 (0 : Int64) (7 : Int64)).bind (fun r2 => (if r2 = 0 then some (0 : Int64) else if am_inb x1 8 = true then (if (M.1 600 o 0 x1.toNatClampNeg) = (1 : Int32) then if am_inb x1 8 = true then (f_X5_in M x2.toInt64 (0 : Int64) (((M.1 602 o 0 x1.toNatClampNeg) - (1 : Int32)).toInt64)).bind (fun r6 => (if r6 = 0 then some (0 : Int64) else if am_inb x1 8 = true then if am_inb x2 40 = true then some (M.2 703 o x1.toNatClampNeg x2.toNatClampNeg) else none else none)) else none else some (0 : Int64)) else none))
set_option maxHeartbeats 4000000 in
theorem w_X5_element {K : am_K} {d : Nat} {post : Option am_V → am_M → Prop} {M : am_M} {o : Nat} {x1 : Int32} {x2 : Int32} {y : Int64} (h : f_X5_element M o x1 x2 = some y) (hp : post (some (.inr (.inl y))) M) : am_W K (d + 1) m_X5_element 0 [(0, .inr (.inr (5, o, 0))), (1, .inl x1), (2, .inl x2)] [] M post := by
  unfold f_X5_element at h
  refine am_iload_n dX5_element_0 rfl ?_
  refine am_i2l dX5_element_1 ?_
  refine am_lconst dX5_element_2 lc_0 ?_
  refine am_ldc2 dX5_element_3 kc_RX5_93 ?_
  obtain ⟨r2, c1, h⟩ := am_bnd h
  refine am_callSi (as := [.inr (.inl x1.toInt64), .inr (.inl (0 : Int64)), .inr (.inl (7 : Int64))]) dX5_element_6 cs_RX5_95 cb_X5_in rfl rfl (Nat.le_of_ble_eq_true rfl) (c_X5_in c1) ?_
  refine am_if_eq 51 dX5_element_9 rfl (fun b11 => ?_) (fun b11 => ?_)
  · replace h := am_ifT b11 h
    refine am_lconst dX5_element_51 lc_0 ?_
    obtain rfl := Option.some.inj h
    exact am_lreturn dX5_element_52 rfl hp
  · replace h := am_ifF b11 h
    refine am_aload_n dX5_element_12 rfl ?_
    refine am_getR (o' := o) dX5_element_13 fl_RX5_7 sh_5 rfl rfl hk_5 ?_
    refine am_iload_n dX5_element_16 rfl ?_
    obtain ⟨g3, h⟩ := am_grd h
    refine am_iaload dX5_element_17 sh_600 hk_600 (am_inbE g3) ?_
    refine am_iconst dX5_element_18 ic_1 ?_
    refine am_icmp_ne 51 dX5_element_19 rfl (fun b10 => ?_) (fun b10 => ?_)
    · replace h := am_ifF b10 h
      refine am_lconst dX5_element_51 lc_0 ?_
      obtain rfl := Option.some.inj h
      exact am_lreturn dX5_element_52 rfl hp
    · replace h := am_ifT b10 h
      refine am_iload_n dX5_element_22 rfl ?_
      refine am_i2l dX5_element_23 ?_
      refine am_lconst dX5_element_24 lc_0 ?_
      refine am_aload_n dX5_element_25 rfl ?_
      refine am_getR (o' := o) dX5_element_26 fl_RX5_16 sh_5 rfl rfl hk_5 ?_
      refine am_iload_n dX5_element_29 rfl ?_
      obtain ⟨g4, h⟩ := am_grd h
      refine am_iaload dX5_element_30 sh_602 hk_602 (am_inbE g4) ?_
      refine am_iconst dX5_element_31 ic_1 ?_
      refine am_isub dX5_element_32 ?_
      refine am_i2l dX5_element_33 ?_
      obtain ⟨r6, c5, h⟩ := am_bnd h
      refine am_callSi (as := [.inr (.inl x2.toInt64), .inr (.inl (0 : Int64)), .inr (.inl (((M.1 602 o 0 x1.toNatClampNeg) - (1 : Int32)).toInt64))]) dX5_element_34 cs_RX5_95 cb_X5_in rfl rfl (Nat.le_of_ble_eq_true rfl) (c_X5_in c5) ?_
      refine am_if_eq 51 dX5_element_37 rfl (fun b9 => ?_) (fun b9 => ?_)
      · replace h := am_ifT b9 h
        refine am_lconst dX5_element_51 lc_0 ?_
        obtain rfl := Option.some.inj h
        exact am_lreturn dX5_element_52 rfl hp
      · replace h := am_ifF b9 h
        refine am_aload_n dX5_element_40 rfl ?_
        refine am_getR (o' := o) dX5_element_41 fl_RX5_21 sh_5 rfl rfl hk_5 ?_
        refine am_iload_n dX5_element_44 rfl ?_
        obtain ⟨g7, h⟩ := am_grd h
        refine am_aaload dX5_element_45 sh_603 rfl rfl hk_603 (am_inbE g7) ?_
        refine am_top (w := .inr (.inr (703, o, x1.toNatClampNeg))) rfl ?_
        refine am_iload_n dX5_element_46 rfl ?_
        obtain ⟨g8, h⟩ := am_grd h
        refine am_laload dX5_element_47 sh_703 hk_703 (am_inbE g8) ?_
        refine am_goto 52 dX5_element_48 rfl ?_
        obtain rfl := Option.some.inj h
        exact am_lreturn dX5_element_52 rfl hp
theorem c_X5_element {K : am_K} {d : Nat} {M : am_M} {o : Nat} {x1 : Int32} {x2 : Int32} {y : Int64} (h : f_X5_element M o x1 x2 = some y) : am_Met K (d + 1) m_X5_element [.inr (.inr (5, o, 0)), .inl x1, .inl x2] M (fun q N => q = some (.inr (.inl y)) ∧ N = M) :=
  am_Met_of cb_X5_element (Nat.le_of_ble_eq_true rfl) (w_X5_element h ⟨rfl, rfl⟩)
def f_X5_holds (M : am_M) (o : Nat) (x1 : Int32) : Option (Int32) :=
  (f_X5_in M x1.toInt64 (0 : Int64) (7 : Int64)).bind (fun r2 => (if r2 = 0 then some (-1 : Int32) else if am_inb x1 8 = true then (if (M.1 600 o 0 x1.toNatClampNeg) = 0 then some (-1 : Int32) else if am_inb x1 8 = true then (if (M.1 600 o 0 x1.toNatClampNeg) = (1 : Int32) then if am_inb x1 8 = true then some (M.1 601 o 0 x1.toNatClampNeg) else none else if am_inb x1 8 = true then some ((10 : Int32) + (M.1 605 o 0 x1.toNatClampNeg)) else none) else none) else none))
set_option maxHeartbeats 4000000 in
theorem w_X5_holds {K : am_K} {d : Nat} {post : Option am_V → am_M → Prop} {M : am_M} {o : Nat} {x1 : Int32} {y : Int32} (h : f_X5_holds M o x1 = some y) (hp : post (some (.inl y)) M) : am_W K (d + 1) m_X5_holds 0 [(0, .inr (.inr (5, o, 0))), (1, .inl x1)] [] M post := by
  unfold f_X5_holds at h
  refine am_iload_n dX5_holds_0 rfl ?_
  refine am_i2l dX5_holds_1 ?_
  refine am_lconst dX5_holds_2 lc_0 ?_
  refine am_ldc2 dX5_holds_3 kc_RX5_93 ?_
  obtain ⟨r2, c1, h⟩ := am_bnd h
  refine am_callSi (as := [.inr (.inl x1.toInt64), .inr (.inl (0 : Int64)), .inr (.inl (7 : Int64))]) dX5_holds_6 cs_RX5_95 cb_X5_in rfl rfl (Nat.le_of_ble_eq_true rfl) (c_X5_in c1) ?_
  refine am_if_eq 21 dX5_holds_9 rfl (fun b9 => ?_) (fun b9 => ?_)
  · replace h := am_ifT b9 h
    refine am_iconst dX5_holds_21 ic_m1 ?_
    obtain rfl := Option.some.inj h
    exact am_ireturn dX5_holds_22 rfl rfl hp
  · replace h := am_ifF b9 h
    refine am_aload_n dX5_holds_12 rfl ?_
    refine am_getR (o' := o) dX5_holds_13 fl_RX5_7 sh_5 rfl rfl hk_5 ?_
    refine am_iload_n dX5_holds_16 rfl ?_
    obtain ⟨g3, h⟩ := am_grd h
    refine am_iaload dX5_holds_17 sh_600 hk_600 (am_inbE g3) ?_
    refine am_if_ne 23 dX5_holds_18 rfl (fun b8 => ?_) (fun b8 => ?_)
    · replace h := am_ifF b8 h
      refine am_aload_n dX5_holds_23 rfl ?_
      refine am_getR (o' := o) dX5_holds_24 fl_RX5_7 sh_5 rfl rfl hk_5 ?_
      refine am_iload_n dX5_holds_27 rfl ?_
      obtain ⟨g4, h⟩ := am_grd h
      refine am_iaload dX5_holds_28 sh_600 hk_600 (am_inbE g4) ?_
      refine am_iconst dX5_holds_29 ic_1 ?_
      refine am_icmp_ne 42 dX5_holds_30 rfl (fun b7 => ?_) (fun b7 => ?_)
      · replace h := am_ifF b7 h
        refine am_bipush dX5_holds_42 bp_10 ?_
        refine am_aload_n dX5_holds_44 rfl ?_
        refine am_getR (o' := o) dX5_holds_45 fl_RX5_28 sh_5 rfl rfl hk_5 ?_
        refine am_iload_n dX5_holds_48 rfl ?_
        obtain ⟨g5, h⟩ := am_grd h
        refine am_iaload dX5_holds_49 sh_605 hk_605 (am_inbE g5) ?_
        refine am_iadd dX5_holds_50 ?_
        obtain rfl := Option.some.inj h
        exact am_ireturn dX5_holds_51 rfl rfl hp
      · replace h := am_ifT b7 h
        refine am_aload_n dX5_holds_33 rfl ?_
        refine am_getR (o' := o) dX5_holds_34 fl_RX5_13 sh_5 rfl rfl hk_5 ?_
        refine am_iload_n dX5_holds_37 rfl ?_
        obtain ⟨g6, h⟩ := am_grd h
        refine am_iaload dX5_holds_38 sh_601 hk_601 (am_inbE g6) ?_
        refine am_goto 51 dX5_holds_39 rfl ?_
        obtain rfl := Option.some.inj h
        exact am_ireturn dX5_holds_51 rfl rfl hp
    · replace h := am_ifT b8 h
      refine am_iconst dX5_holds_21 ic_m1 ?_
      obtain rfl := Option.some.inj h
      exact am_ireturn dX5_holds_22 rfl rfl hp
theorem c_X5_holds {K : am_K} {d : Nat} {M : am_M} {o : Nat} {x1 : Int32} {y : Int32} (h : f_X5_holds M o x1 = some y) : am_Met K (d + 1) m_X5_holds [.inr (.inr (5, o, 0)), .inl x1] M (fun q N => q = some (.inl y) ∧ N = M) :=
  am_Met_of cb_X5_holds (Nat.le_of_ble_eq_true rfl) (w_X5_holds h ⟨rfl, rfl⟩)
def f_X5_drawing (M : am_M) (o : Nat) (x1 : Int32) (x2 : Int32) (x3 : Int32) : Option (Int32 × am_M) :=
  (f_X5_in M x1.toInt64 (0 : Int64) (7 : Int64)).bind (fun r2 => (if r2 = 0 then (f_X5_refuse M o (-2 : Int32)).bind (fun r4 => some (r4.1, r4.2)) else (f_X5_in M x2.toInt64 (1 : Int64) (6 : Int64)).bind (fun r6 => (if r6 = 0 then (f_X5_refuse M o (-2 : Int32)).bind (fun r8 => some (r8.1, r8.2)) else (f_X5_in M x3.toInt64 (0 : Int64) (9 : Int64)).bind (fun r10 => (if r10 = 0 then (f_X5_refuse M o (-2 : Int32)).bind (fun r18 => some (r18.1, r18.2)) else if am_inb x1 8 = true then am_let (am_si M 600 o 0 x1.toNatClampNeg (2 : Int32)) (fun M12 => if am_inb x1 8 = true then am_let (am_si M12 605 o 0 x1.toNatClampNeg x2) (fun M14 => if am_inb x1 8 = true then am_let (am_si M14 606 o 0 x1.toNatClampNeg x3) (fun M16 => some ((1 : Int32), M16)) else none) else none) else none))))))
set_option maxHeartbeats 4000000 in
theorem w_X5_drawing {K : am_K} {d : Nat} {post : Option am_V → am_M → Prop} {M : am_M} {o : Nat} {x1 : Int32} {x2 : Int32} {x3 : Int32} {y : Int32 × am_M} (h : f_X5_drawing M o x1 x2 x3 = some y) (hp : post (some (.inl y.1)) y.2) : am_W K (d + 1) m_X5_drawing 0 [(0, .inr (.inr (5, o, 0))), (1, .inl x1), (2, .inl x2), (3, .inl x3)] [] M post := by
  unfold f_X5_drawing at h
  refine am_iload_n dX5_drawing_0 rfl ?_
  refine am_i2l dX5_drawing_1 ?_
  refine am_lconst dX5_drawing_2 lc_0 ?_
  refine am_ldc2 dX5_drawing_3 kc_RX5_93 ?_
  obtain ⟨r2, c1, h⟩ := am_bnd h
  refine am_callSi (as := [.inr (.inl x1.toInt64), .inr (.inl (0 : Int64)), .inr (.inl (7 : Int64))]) dX5_drawing_6 cs_RX5_95 cb_X5_in rfl rfl (Nat.le_of_ble_eq_true rfl) (c_X5_in c1) ?_
  refine am_if_eq 36 dX5_drawing_9 rfl (fun b21 => ?_) (fun b21 => ?_)
  · replace h := am_ifT b21 h
    refine am_aload_n dX5_drawing_36 rfl ?_
    refine am_bipush dX5_drawing_37 bp_m2 ?_
    obtain ⟨r4, c3, h⟩ := am_bnd h
    refine am_callVi (as := [.inl (-2 : Int32)]) dX5_drawing_39 cv_RX5_103 cb_X5_refuse sh_5 rfl hk_5 rfl rfl (Nat.le_of_ble_eq_true rfl) (c_X5_refuse c3) ?_
    obtain rfl := Option.some.inj h
    exact am_ireturn dX5_drawing_42 rfl rfl hp
  · replace h := am_ifF b21 h
    refine am_iload_n dX5_drawing_12 rfl ?_
    refine am_i2l dX5_drawing_13 ?_
    refine am_lconst dX5_drawing_14 lc_1 ?_
    refine am_ldc2 dX5_drawing_15 kc_RX5_118 ?_
    obtain ⟨r6, c5, h⟩ := am_bnd h
    refine am_callSi (as := [.inr (.inl x2.toInt64), .inr (.inl (1 : Int64)), .inr (.inl (6 : Int64))]) dX5_drawing_18 cs_RX5_95 cb_X5_in rfl rfl (Nat.le_of_ble_eq_true rfl) (c_X5_in c5) ?_
    refine am_if_eq 36 dX5_drawing_21 rfl (fun b20 => ?_) (fun b20 => ?_)
    · replace h := am_ifT b20 h
      refine am_aload_n dX5_drawing_36 rfl ?_
      refine am_bipush dX5_drawing_37 bp_m2 ?_
      obtain ⟨r8, c7, h⟩ := am_bnd h
      refine am_callVi (as := [.inl (-2 : Int32)]) dX5_drawing_39 cv_RX5_103 cb_X5_refuse sh_5 rfl hk_5 rfl rfl (Nat.le_of_ble_eq_true rfl) (c_X5_refuse c7) ?_
      obtain rfl := Option.some.inj h
      exact am_ireturn dX5_drawing_42 rfl rfl hp
    · replace h := am_ifF b20 h
      refine am_iload_n dX5_drawing_24 rfl ?_
      refine am_i2l dX5_drawing_25 ?_
      refine am_lconst dX5_drawing_26 lc_0 ?_
      refine am_ldc2 dX5_drawing_27 kc_RX5_120 ?_
      obtain ⟨r10, c9, h⟩ := am_bnd h
      refine am_callSi (as := [.inr (.inl x3.toInt64), .inr (.inl (0 : Int64)), .inr (.inl (9 : Int64))]) dX5_drawing_30 cs_RX5_95 cb_X5_in rfl rfl (Nat.le_of_ble_eq_true rfl) (c_X5_in c9) ?_
      refine am_if_ne 43 dX5_drawing_33 rfl (fun b19 => ?_) (fun b19 => ?_)
      · replace h := am_ifF b19 h
        refine am_aload_n dX5_drawing_43 rfl ?_
        refine am_getR (o' := o) dX5_drawing_44 fl_RX5_7 sh_5 rfl rfl hk_5 ?_
        refine am_iload_n dX5_drawing_47 rfl ?_
        refine am_iconst dX5_drawing_48 ic_2 ?_
        obtain ⟨g11, h⟩ := am_grd h
        obtain ⟨M12, eM12, h⟩ := am_letE h
        refine am_iastore dX5_drawing_49 sh_600 hk_600 (am_inbE g11) ?_
        refine am_mem eM12 ?_
        refine am_aload_n dX5_drawing_50 rfl ?_
        refine am_getR (o' := o) dX5_drawing_51 fl_RX5_28 sh_5 rfl rfl hk_5 ?_
        refine am_iload_n dX5_drawing_54 rfl ?_
        refine am_iload_n dX5_drawing_55 rfl ?_
        obtain ⟨g13, h⟩ := am_grd h
        obtain ⟨M14, eM14, h⟩ := am_letE h
        refine am_iastore dX5_drawing_56 sh_605 hk_605 (am_inbE g13) ?_
        refine am_mem eM14 ?_
        refine am_aload_n dX5_drawing_57 rfl ?_
        refine am_getR (o' := o) dX5_drawing_58 fl_RX5_31 sh_5 rfl rfl hk_5 ?_
        refine am_iload_n dX5_drawing_61 rfl ?_
        refine am_iload_n dX5_drawing_62 rfl ?_
        obtain ⟨g15, h⟩ := am_grd h
        obtain ⟨M16, eM16, h⟩ := am_letE h
        refine am_iastore dX5_drawing_63 sh_606 hk_606 (am_inbE g15) ?_
        refine am_mem eM16 ?_
        refine am_iconst dX5_drawing_64 ic_1 ?_
        obtain rfl := Option.some.inj h
        exact am_ireturn dX5_drawing_65 rfl rfl hp
      · replace h := am_ifT b19 h
        refine am_aload_n dX5_drawing_36 rfl ?_
        refine am_bipush dX5_drawing_37 bp_m2 ?_
        obtain ⟨r18, c17, h⟩ := am_bnd h
        refine am_callVi (as := [.inl (-2 : Int32)]) dX5_drawing_39 cv_RX5_103 cb_X5_refuse sh_5 rfl hk_5 rfl rfl (Nat.le_of_ble_eq_true rfl) (c_X5_refuse c17) ?_
        obtain rfl := Option.some.inj h
        exact am_ireturn dX5_drawing_42 rfl rfl hp
theorem c_X5_drawing {K : am_K} {d : Nat} {M : am_M} {o : Nat} {x1 : Int32} {x2 : Int32} {x3 : Int32} {y : Int32 × am_M} (h : f_X5_drawing M o x1 x2 x3 = some y) : am_Met K (d + 1) m_X5_drawing [.inr (.inr (5, o, 0)), .inl x1, .inl x2, .inl x3] M (fun q N => q = some (.inl y.1) ∧ N = y.2) :=
  am_Met_of cb_X5_drawing (Nat.le_of_ble_eq_true rfl) (w_X5_drawing h ⟨rfl, rfl⟩)
def f_X5_isUnder (M : am_M) (x0 : Int32) (x1 : Int32) : Option (Int32) :=
  (if x1 = 0 then some (1 : Int32) else (if x0 = x1 then some (1 : Int32) else (if x1 = (1 : Int32) then some (1 : Int32) else (if x1 = (2 : Int32) then (if x0 = (3 : Int32) then some (1 : Int32) else (if x0 = (4 : Int32) then some (1 : Int32) else (if x0 = (5 : Int32) then some (1 : Int32) else some (0 : Int32)))) else some (0 : Int32)))))
set_option maxHeartbeats 4000000 in
theorem w_X5_isUnder {K : am_K} {d : Nat} {post : Option am_V → am_M → Prop} {M : am_M} {x0 : Int32} {x1 : Int32} {y : Int32} (h : f_X5_isUnder M x0 x1 = some y) (hp : post (some (.inl y)) M) : am_W K d m_X5_isUnder 0 [(0, .inl x0), (1, .inl x1)] [] M post := by
  unfold f_X5_isUnder at h
  refine am_iload_n dX5_isUnder_0 rfl ?_
  refine am_if_eq 14 dX5_isUnder_1 rfl (fun b7 => ?_) (fun b7 => ?_)
  · replace h := am_ifT b7 h
    refine am_iconst dX5_isUnder_14 ic_1 ?_
    obtain rfl := Option.some.inj h
    exact am_ireturn dX5_isUnder_15 rfl (am_narZ (by decide)) hp
  · replace h := am_ifF b7 h
    refine am_iload_n dX5_isUnder_4 rfl ?_
    refine am_iload_n dX5_isUnder_5 rfl ?_
    refine am_icmp_eq 14 dX5_isUnder_6 rfl (fun b6 => ?_) (fun b6 => ?_)
    · replace h := am_ifT b6 h
      refine am_iconst dX5_isUnder_14 ic_1 ?_
      obtain rfl := Option.some.inj h
      exact am_ireturn dX5_isUnder_15 rfl (am_narZ (by decide)) hp
    · replace h := am_ifF b6 h
      refine am_iload_n dX5_isUnder_9 rfl ?_
      refine am_iconst dX5_isUnder_10 ic_1 ?_
      refine am_icmp_ne 16 dX5_isUnder_11 rfl (fun b5 => ?_) (fun b5 => ?_)
      · replace h := am_ifF b5 h
        refine am_iload_n dX5_isUnder_16 rfl ?_
        refine am_iconst dX5_isUnder_17 ic_2 ?_
        refine am_icmp_ne 40 dX5_isUnder_18 rfl (fun b4 => ?_) (fun b4 => ?_)
        · replace h := am_ifF b4 h
          refine am_iconst dX5_isUnder_40 ic_0 ?_
          obtain rfl := Option.some.inj h
          exact am_ireturn dX5_isUnder_41 rfl (am_narZ (by decide)) hp
        · replace h := am_ifT b4 h
          refine am_iload_n dX5_isUnder_21 rfl ?_
          refine am_iconst dX5_isUnder_22 ic_3 ?_
          refine am_icmp_eq 36 dX5_isUnder_23 rfl (fun b3 => ?_) (fun b3 => ?_)
          · replace h := am_ifT b3 h
            refine am_iconst dX5_isUnder_36 ic_1 ?_
            refine am_goto 41 dX5_isUnder_37 rfl ?_
            obtain rfl := Option.some.inj h
            exact am_ireturn dX5_isUnder_41 rfl (am_narZ (by decide)) hp
          · replace h := am_ifF b3 h
            refine am_iload_n dX5_isUnder_26 rfl ?_
            refine am_iconst dX5_isUnder_27 ic_4 ?_
            refine am_icmp_eq 36 dX5_isUnder_28 rfl (fun b2 => ?_) (fun b2 => ?_)
            · replace h := am_ifT b2 h
              refine am_iconst dX5_isUnder_36 ic_1 ?_
              refine am_goto 41 dX5_isUnder_37 rfl ?_
              obtain rfl := Option.some.inj h
              exact am_ireturn dX5_isUnder_41 rfl (am_narZ (by decide)) hp
            · replace h := am_ifF b2 h
              refine am_iload_n dX5_isUnder_31 rfl ?_
              refine am_iconst dX5_isUnder_32 ic_5 ?_
              refine am_icmp_ne 40 dX5_isUnder_33 rfl (fun b1 => ?_) (fun b1 => ?_)
              · replace h := am_ifF b1 h
                refine am_iconst dX5_isUnder_40 ic_0 ?_
                obtain rfl := Option.some.inj h
                exact am_ireturn dX5_isUnder_41 rfl (am_narZ (by decide)) hp
              · replace h := am_ifT b1 h
                refine am_iconst dX5_isUnder_36 ic_1 ?_
                refine am_goto 41 dX5_isUnder_37 rfl ?_
                obtain rfl := Option.some.inj h
                exact am_ireturn dX5_isUnder_41 rfl (am_narZ (by decide)) hp
      · replace h := am_ifT b5 h
        refine am_iconst dX5_isUnder_14 ic_1 ?_
        obtain rfl := Option.some.inj h
        exact am_ireturn dX5_isUnder_15 rfl (am_narZ (by decide)) hp
theorem c_X5_isUnder {K : am_K} {d : Nat} {M : am_M} {x0 : Int32} {x1 : Int32} {y : Int32} (h : f_X5_isUnder M x0 x1 = some y) : am_Met K d m_X5_isUnder [.inl x0, .inl x1] M (fun q N => q = some (.inl y) ∧ N = M) :=
  am_Met_of cb_X5_isUnder (Nat.le_of_ble_eq_true rfl) (w_X5_isUnder h ⟨rfl, rfl⟩)
def f_X5_isSo (M : am_M) (o : Nat) (x1 : Int32) (x2 : Int32) (x3 : Int32) (x4 : Int32) : Option (Int32) :=
  am_let (((2 : Int32) * x4) - x3) (fun v1 => (if x1 = (1 : Int32) then (if x4 ≤ (x2 * (x3 - x4)) then some (0 : Int32) else some (1 : Int32)) else if x1 = (2 : Int32) then (if v1 < 0 then some (0 : Int32) else some (1 : Int32)) else if x1 = (3 : Int32) then (if x2 < v1 then some (0 : Int32) else some (1 : Int32)) else if x1 = (4 : Int32) then (if x3 ≤ x2 then some (1 : Int32) else (if v1 = 0 then some (0 : Int32) else some (1 : Int32))) else if x1 = (5 : Int32) then (if (x3 - x3 / (2 : Int32) * (2 : Int32)) = (1 : Int32) then (if x3 < (M.1 5 o 0 29) then some (1 : Int32) else (if x4 ≤ (x2 * (x3 - x4)) then some (0 : Int32) else some (1 : Int32))) else (if x4 ≤ (x2 * (x3 - x4)) then some (0 : Int32) else some (1 : Int32))) else if x1 = (6 : Int32) then (if (x2 * (x3 - x4)) < x4 then some (0 : Int32) else some (1 : Int32)) else some (1 : Int32)))
set_option maxHeartbeats 4000000 in
theorem w_X5_isSo {K : am_K} {d : Nat} {post : Option am_V → am_M → Prop} {M : am_M} {o : Nat} {x1 : Int32} {x2 : Int32} {x3 : Int32} {x4 : Int32} {y : Int32} (h : f_X5_isSo M o x1 x2 x3 x4 = some y) (hp : post (some (.inl y)) M) : am_W K d m_X5_isSo 0 [(0, .inr (.inr (5, o, 0))), (1, .inl x1), (2, .inl x2), (3, .inl x3), (4, .inl x4)] [] M post := by
  unfold f_X5_isSo at h
  refine am_iconst dX5_isSo_0 ic_2 ?_
  refine am_iload dX5_isSo_1 rfl ?_
  refine am_imul dX5_isSo_3 ?_
  refine am_iload_n dX5_isSo_4 rfl ?_
  refine am_isub dX5_isSo_5 ?_
  obtain ⟨v1, ev1, h⟩ := am_letE h
  refine am_topI ev1 ?_
  refine am_istore (ls' := [(0, .inr (.inr (5, o, 0))), (1, .inl x1), (2, .inl x2), (3, .inl x3), (4, .inl x4), (5, .inl v1)]) dX5_isSo_6 (Nat.le_of_ble_eq_true rfl) rfl ?_
  refine am_iload_n dX5_isSo_8 rfl ?_
  by_cases b2 : x1 = (1 : Int32)
  · replace h := am_ifT b2 h
    skip
    refine am_swIn 48 dX5_isSo_9 (by rw [b2]; decide) (by rw [b2]; decide) (by rw [b2]; rfl) rfl ?_
    refine am_iload dX5_isSo_48 rfl ?_
    refine am_iload_n dX5_isSo_50 rfl ?_
    refine am_iload_n dX5_isSo_51 rfl ?_
    refine am_iload dX5_isSo_52 rfl ?_
    refine am_isub dX5_isSo_54 ?_
    refine am_imul dX5_isSo_55 ?_
    refine am_icmp_le 63 dX5_isSo_56 rfl (fun b3 => ?_) (fun b3 => ?_)
    · replace h := am_ifT b3 h
      refine am_iconst dX5_isSo_63 ic_0 ?_
      obtain rfl := Option.some.inj h
      exact am_ireturn dX5_isSo_64 rfl (am_narZ (by decide)) hp
    · replace h := am_ifF b3 h
      refine am_iconst dX5_isSo_59 ic_1 ?_
      refine am_goto 64 dX5_isSo_60 rfl ?_
      obtain rfl := Option.some.inj h
      exact am_ireturn dX5_isSo_64 rfl (am_narZ (by decide)) hp
  replace h := am_ifF b2 h
  by_cases b4 : x1 = (2 : Int32)
  · replace h := am_ifT b4 h
    skip
    refine am_swIn 65 dX5_isSo_9 (by rw [b4]; decide) (by rw [b4]; decide) (by rw [b4]; rfl) rfl ?_
    refine am_iload dX5_isSo_65 rfl ?_
    refine am_if_lt 74 dX5_isSo_67 rfl (fun b5 => ?_) (fun b5 => ?_)
    · replace h := am_ifT b5 h
      refine am_iconst dX5_isSo_74 ic_0 ?_
      obtain rfl := Option.some.inj h
      exact am_ireturn dX5_isSo_75 rfl (am_narZ (by decide)) hp
    · replace h := am_ifF b5 h
      refine am_iconst dX5_isSo_70 ic_1 ?_
      refine am_goto 75 dX5_isSo_71 rfl ?_
      obtain rfl := Option.some.inj h
      exact am_ireturn dX5_isSo_75 rfl (am_narZ (by decide)) hp
  replace h := am_ifF b4 h
  by_cases b6 : x1 = (3 : Int32)
  · replace h := am_ifT b6 h
    skip
    refine am_swIn 76 dX5_isSo_9 (by rw [b6]; decide) (by rw [b6]; decide) (by rw [b6]; rfl) rfl ?_
    refine am_iload dX5_isSo_76 rfl ?_
    refine am_iload_n dX5_isSo_78 rfl ?_
    refine am_icmp_gt 86 dX5_isSo_79 rfl (fun b7 => ?_) (fun b7 => ?_)
    · replace h := am_ifT b7 h
      refine am_iconst dX5_isSo_86 ic_0 ?_
      obtain rfl := Option.some.inj h
      exact am_ireturn dX5_isSo_87 rfl (am_narZ (by decide)) hp
    · replace h := am_ifF b7 h
      refine am_iconst dX5_isSo_82 ic_1 ?_
      refine am_goto 87 dX5_isSo_83 rfl ?_
      obtain rfl := Option.some.inj h
      exact am_ireturn dX5_isSo_87 rfl (am_narZ (by decide)) hp
  replace h := am_ifF b6 h
  by_cases b8 : x1 = (4 : Int32)
  · replace h := am_ifT b8 h
    skip
    refine am_swIn 88 dX5_isSo_9 (by rw [b8]; decide) (by rw [b8]; decide) (by rw [b8]; rfl) rfl ?_
    refine am_iload_n dX5_isSo_88 rfl ?_
    refine am_iload_n dX5_isSo_89 rfl ?_
    refine am_icmp_le 98 dX5_isSo_90 rfl (fun b10 => ?_) (fun b10 => ?_)
    · replace h := am_ifT b10 h
      refine am_iconst dX5_isSo_98 ic_1 ?_
      refine am_goto 103 dX5_isSo_99 rfl ?_
      obtain rfl := Option.some.inj h
      exact am_ireturn dX5_isSo_103 rfl (am_narZ (by decide)) hp
    · replace h := am_ifF b10 h
      refine am_iload dX5_isSo_93 rfl ?_
      refine am_if_eq 102 dX5_isSo_95 rfl (fun b9 => ?_) (fun b9 => ?_)
      · replace h := am_ifT b9 h
        refine am_iconst dX5_isSo_102 ic_0 ?_
        obtain rfl := Option.some.inj h
        exact am_ireturn dX5_isSo_103 rfl (am_narZ (by decide)) hp
      · replace h := am_ifF b9 h
        refine am_iconst dX5_isSo_98 ic_1 ?_
        refine am_goto 103 dX5_isSo_99 rfl ?_
        obtain rfl := Option.some.inj h
        exact am_ireturn dX5_isSo_103 rfl (am_narZ (by decide)) hp
  replace h := am_ifF b8 h
  by_cases b11 : x1 = (5 : Int32)
  · replace h := am_ifT b11 h
    skip
    refine am_swIn 104 dX5_isSo_9 (by rw [b11]; decide) (by rw [b11]; decide) (by rw [b11]; rfl) rfl ?_
    refine am_iload_n dX5_isSo_104 rfl ?_
    refine am_iconst dX5_isSo_105 ic_2 ?_
    refine am_irem dX5_isSo_106 (by decide) ?_
    refine am_iconst dX5_isSo_107 ic_1 ?_
    refine am_icmp_ne 119 dX5_isSo_108 rfl (fun b15 => ?_) (fun b15 => ?_)
    · replace h := am_ifF b15 h
      refine am_iload dX5_isSo_119 rfl ?_
      refine am_iload_n dX5_isSo_121 rfl ?_
      refine am_iload_n dX5_isSo_122 rfl ?_
      refine am_iload dX5_isSo_123 rfl ?_
      refine am_isub dX5_isSo_125 ?_
      refine am_imul dX5_isSo_126 ?_
      refine am_icmp_le 134 dX5_isSo_127 rfl (fun b12 => ?_) (fun b12 => ?_)
      · replace h := am_ifT b12 h
        refine am_iconst dX5_isSo_134 ic_0 ?_
        obtain rfl := Option.some.inj h
        exact am_ireturn dX5_isSo_135 rfl (am_narZ (by decide)) hp
      · replace h := am_ifF b12 h
        refine am_iconst dX5_isSo_130 ic_1 ?_
        refine am_goto 135 dX5_isSo_131 rfl ?_
        obtain rfl := Option.some.inj h
        exact am_ireturn dX5_isSo_135 rfl (am_narZ (by decide)) hp
    · replace h := am_ifT b15 h
      refine am_iload_n dX5_isSo_111 rfl ?_
      refine am_aload_n dX5_isSo_112 rfl ?_
      refine am_getI dX5_isSo_113 fl_RX5_254 sh_5 rfl hk_5 ?_
      refine am_icmp_lt 130 dX5_isSo_116 rfl (fun b14 => ?_) (fun b14 => ?_)
      · replace h := am_ifT b14 h
        refine am_iconst dX5_isSo_130 ic_1 ?_
        refine am_goto 135 dX5_isSo_131 rfl ?_
        obtain rfl := Option.some.inj h
        exact am_ireturn dX5_isSo_135 rfl (am_narZ (by decide)) hp
      · replace h := am_ifF b14 h
        refine am_iload dX5_isSo_119 rfl ?_
        refine am_iload_n dX5_isSo_121 rfl ?_
        refine am_iload_n dX5_isSo_122 rfl ?_
        refine am_iload dX5_isSo_123 rfl ?_
        refine am_isub dX5_isSo_125 ?_
        refine am_imul dX5_isSo_126 ?_
        refine am_icmp_le 134 dX5_isSo_127 rfl (fun b13 => ?_) (fun b13 => ?_)
        · replace h := am_ifT b13 h
          refine am_iconst dX5_isSo_134 ic_0 ?_
          obtain rfl := Option.some.inj h
          exact am_ireturn dX5_isSo_135 rfl (am_narZ (by decide)) hp
        · replace h := am_ifF b13 h
          refine am_iconst dX5_isSo_130 ic_1 ?_
          refine am_goto 135 dX5_isSo_131 rfl ?_
          obtain rfl := Option.some.inj h
          exact am_ireturn dX5_isSo_135 rfl (am_narZ (by decide)) hp
  replace h := am_ifF b11 h
  by_cases b16 : x1 = (6 : Int32)
  · replace h := am_ifT b16 h
    skip
    refine am_swIn 136 dX5_isSo_9 (by rw [b16]; decide) (by rw [b16]; decide) (by rw [b16]; rfl) rfl ?_
    refine am_iload dX5_isSo_136 rfl ?_
    refine am_iload_n dX5_isSo_138 rfl ?_
    refine am_iload_n dX5_isSo_139 rfl ?_
    refine am_iload dX5_isSo_140 rfl ?_
    refine am_isub dX5_isSo_142 ?_
    refine am_imul dX5_isSo_143 ?_
    refine am_icmp_gt 151 dX5_isSo_144 rfl (fun b17 => ?_) (fun b17 => ?_)
    · replace h := am_ifT b17 h
      refine am_iconst dX5_isSo_151 ic_0 ?_
      obtain rfl := Option.some.inj h
      exact am_ireturn dX5_isSo_152 rfl (am_narZ (by decide)) hp
    · replace h := am_ifF b17 h
      refine am_iconst dX5_isSo_147 ic_1 ?_
      refine am_goto 152 dX5_isSo_148 rfl ?_
      obtain rfl := Option.some.inj h
      exact am_ireturn dX5_isSo_152 rfl (am_narZ (by decide)) hp
  replace h := am_ifF b16 h
  have nb2 : ¬ (x1).toInt = 1 := am_neI b2
  have nb4 : ¬ (x1).toInt = 2 := am_neI b4
  have nb6 : ¬ (x1).toInt = 3 := am_neI b6
  have nb8 : ¬ (x1).toInt = 4 := am_neI b8
  have nb11 : ¬ (x1).toInt = 5 := am_neI b11
  have nb16 : ¬ (x1).toInt = 6 := am_neI b16
  refine am_swOut 153 dX5_isSo_9 (by omega) rfl ?_
  refine am_iconst dX5_isSo_153 ic_1 ?_
  obtain rfl := Option.some.inj h
  exact am_ireturn dX5_isSo_154 rfl (am_narZ (by decide)) hp
theorem c_X5_isSo {K : am_K} {d : Nat} {M : am_M} {o : Nat} {x1 : Int32} {x2 : Int32} {x3 : Int32} {x4 : Int32} {y : Int32} (h : f_X5_isSo M o x1 x2 x3 x4 = some y) : am_Met K d m_X5_isSo [.inr (.inr (5, o, 0)), .inl x1, .inl x2, .inl x3, .inl x4] M (fun q N => q = some (.inl y) ∧ N = M) :=
  am_Met_of cb_X5_isSo (Nat.le_of_ble_eq_true rfl) (w_X5_isSo h ⟨rfl, rfl⟩)
def l_X5_count_13 (o0a : Nat) (a1 : Int32) (a2 : Int32) (a3 : Int32) : Nat → Int32 → am_M → Option (am_M)
  | 0, _, _ => none
  | n + 1, a4, M => (if a3 < a4 then some M else ((if a3 = 0 then some (1 : Int64) else ((if a4 ≤ 0 then some (0 : Int64) else if am_inb (a3 - (1 : Int32)) 25 = true then if am_inb (a4 - (1 : Int32)) 25 = true then some (M.2 730 o0a (a3 - (1 : Int32)).toNatClampNeg (a4 - (1 : Int32)).toNatClampNeg) else none else none) : Option (Int64)).bind (fun z4 => ((if a3 ≤ a4 then some (0 : Int64) else if am_inb (a3 - (1 : Int32)) 25 = true then if am_inb a4 25 = true then some (M.2 730 o0a (a3 - (1 : Int32)).toNatClampNeg a4.toNatClampNeg) else none else none) : Option (Int64)).bind (fun z10 => some (z4 + z10)))) : Option (Int64)).bind (fun z1 => if am_inb a3 25 = true then if am_inb a3 25 = true then if am_inb a4 25 = true then ((if (M.1 728 o0a a3.toNatClampNeg a4.toNatClampNeg) = 0 then some (0 : Int64) else (if a3 = 0 then some z1 else (f_X5_isSo M o0a a1 a2 a3 a4).bind (fun r24 => (if r24 = 0 then some (0 : Int64) else some z1)))) : Option (Int64)).bind (fun z20 => if am_inb a4 25 = true then am_let (am_sl M 730 o0a a3.toNatClampNeg a4.toNatClampNeg z20) (fun M29 => am_let (a4 + (1 : Int32)) (fun v30 => l_X5_count_13 o0a a1 a2 a3 n v30 M29)) else none) else none else none else none))
set_option maxHeartbeats 4000000 in
theorem wl_X5_count_13 {K : am_K} {d : Nat} {post : Option am_V → am_M → Prop} {o0a : Nat} {a1 : Int32} {a2 : Int32} {a3 : Int32} : ∀ (n : Nat) (a4 : Int32) (M : am_M) (x : am_M), l_X5_count_13 o0a a1 a2 a3 n a4 M = some x → am_W K (d + 1) m_X5_count 122 [(0, .inr (.inr (5, o0a, 0))), (1, .inl a1), (2, .inl a2), (3, .inl a3)] [] x post → am_W K (d + 1) m_X5_count 13 [(0, .inr (.inr (5, o0a, 0))), (1, .inl a1), (2, .inl a2), (3, .inl a3), (4, .inl a4)] [] M post := by
  intro n
  induction n with
  | zero => intro a4 M x h KX; cases h
  | succ n ih =>
    intro a4 M x h KX
    rw [l_X5_count_13] at h
    refine am_iload dX5_count_13 rfl ?_
    refine am_iload_n dX5_count_15 rfl ?_
    refine am_icmp_gt 122 dX5_count_16 rfl (fun b31 => ?_) (fun b31 => ?_)
    · replace h := am_ifT b31 h
      obtain rfl := Option.some.inj h
      exact am_drop [0, 1, 2, 3] rfl KX
    · replace h := am_ifF b31 h
      refine am_iload_n dX5_count_19 rfl ?_
      obtain ⟨z1, h2, h⟩ := am_bnd h
      have KK3 : am_W K (d + 1) m_X5_count 71 [(0, .inr (.inr (5, o0a, 0))), (1, .inl a1), (2, .inl a2), (3, .inl a3), (4, .inl a4)] [.inr (.inl z1)] M post := by
        refine am_lstore (ls' := [(0, .inr (.inr (5, o0a, 0))), (1, .inl a1), (2, .inl a2), (3, .inl a3), (4, .inl a4), (5, .inr (.inl z1))]) dX5_count_71 (Nat.le_of_ble_eq_true rfl) rfl ?_
        refine am_aload_n dX5_count_73 rfl ?_
        refine am_getR (o' := o0a) dX5_count_74 fl_RX5_69 sh_5 rfl rfl hk_5 ?_
        refine am_iload_n dX5_count_77 rfl ?_
        obtain ⟨g17, h⟩ := am_grd h
        refine am_aaload dX5_count_78 sh_630 rfl rfl hk_630 (am_inbE g17) ?_
        refine am_top (w := .inr (.inr (730, o0a, a3.toNatClampNeg))) rfl ?_
        refine am_iload dX5_count_79 rfl ?_
        refine am_aload_n dX5_count_81 rfl ?_
        refine am_getR (o' := o0a) dX5_count_82 fl_RX5_66 sh_5 rfl rfl hk_5 ?_
        refine am_iload_n dX5_count_85 rfl ?_
        obtain ⟨g18, h⟩ := am_grd h
        refine am_aaload dX5_count_86 sh_628 rfl rfl hk_628 (am_inbE g18) ?_
        refine am_top (w := .inr (.inr (728, o0a, a3.toNatClampNeg))) rfl ?_
        refine am_iload dX5_count_87 rfl ?_
        obtain ⟨g19, h⟩ := am_grd h
        refine am_zaload dX5_count_89 sh_728 hk_728 (am_inbE g19) ?_
        obtain ⟨z20, h21, h⟩ := am_bnd h
        have KK22 : am_W K (d + 1) m_X5_count 115 [(0, .inr (.inr (5, o0a, 0))), (1, .inl a1), (2, .inl a2), (3, .inl a3), (4, .inl a4)] [.inr (.inl z20), .inl a4, .inr (.inr (730, o0a, a3.toNatClampNeg))] M post := by
          obtain ⟨g28, h⟩ := am_grd h
          obtain ⟨M29, eM29, h⟩ := am_letE h
          refine am_lastore dX5_count_115 sh_730 hk_730 (am_inbE g28) ?_
          refine am_mem eM29 ?_
          obtain ⟨v30, ev30, h⟩ := am_letE h
          refine am_iinc (ls' := [(0, .inr (.inr (5, o0a, 0))), (1, .inl a1), (2, .inl a2), (3, .inl a3), (4, .inl v30)]) dX5_count_116 rfl ((congrArg (fun z => a4 + z) ic_1).trans ev30.symm) (Nat.le_of_ble_eq_true rfl) rfl ?_
          refine am_goto 13 dX5_count_119 rfl ?_
          exact am_drop [0, 1, 2, 3, 4] rfl (ih _ _ _ h KX)
        clear h
        refine am_if_eq 114 dX5_count_90 rfl (fun b27 => ?_) (fun b27 => ?_)
        · replace h21 := am_ifT b27 h21
          refine am_lconst dX5_count_114 lc_0 ?_
          obtain rfl := Option.some.inj h21
          exact am_drop [0, 1, 2, 3, 4] rfl KK22
        · replace h21 := am_ifF b27 h21
          refine am_iload_n dX5_count_93 rfl ?_
          refine am_if_eq 109 dX5_count_94 rfl (fun b26 => ?_) (fun b26 => ?_)
          · replace h21 := am_ifT b26 h21
            refine am_lload dX5_count_109 rfl ?_
            refine am_goto 115 dX5_count_111 rfl ?_
            obtain rfl := Option.some.inj h21
            exact am_drop [0, 1, 2, 3, 4] rfl KK22
          · replace h21 := am_ifF b26 h21
            refine am_aload_n dX5_count_97 rfl ?_
            refine am_iload_n dX5_count_98 rfl ?_
            refine am_iload_n dX5_count_99 rfl ?_
            refine am_iload_n dX5_count_100 rfl ?_
            refine am_iload dX5_count_101 rfl ?_
            obtain ⟨r24, c23, h21⟩ := am_bnd h21
            refine am_callVi (as := [.inl a1, .inl a2, .inl a3, .inl a4]) dX5_count_103 cv_RX5_269 cb_X5_isSo sh_5 rfl hk_5 rfl rfl (Nat.le_of_ble_eq_true rfl) (c_X5_isSo c23) ?_
            refine am_if_eq 114 dX5_count_106 rfl (fun b25 => ?_) (fun b25 => ?_)
            · replace h21 := am_ifT b25 h21
              refine am_lconst dX5_count_114 lc_0 ?_
              obtain rfl := Option.some.inj h21
              exact am_drop [0, 1, 2, 3, 4] rfl KK22
            · replace h21 := am_ifF b25 h21
              refine am_lload dX5_count_109 rfl ?_
              refine am_goto 115 dX5_count_111 rfl ?_
              obtain rfl := Option.some.inj h21
              exact am_drop [0, 1, 2, 3, 4] rfl KK22
      clear h
      refine am_if_ne 27 dX5_count_20 rfl (fun b16 => ?_) (fun b16 => ?_)
      · replace h2 := am_ifF b16 h2
        refine am_iload dX5_count_27 rfl ?_
        obtain ⟨z4, h5, h2⟩ := am_bnd h2
        have KK6 : am_W K (d + 1) m_X5_count 49 [(0, .inr (.inr (5, o0a, 0))), (1, .inl a1), (2, .inl a2), (3, .inl a3), (4, .inl a4)] [.inr (.inl z4)] M post := by
          refine am_iload dX5_count_49 rfl ?_
          refine am_iload_n dX5_count_51 rfl ?_
          obtain ⟨z10, h11, h2⟩ := am_bnd h2
          have KK12 : am_W K (d + 1) m_X5_count 70 [(0, .inr (.inr (5, o0a, 0))), (1, .inl a1), (2, .inl a2), (3, .inl a3), (4, .inl a4)] [.inr (.inl z10), .inr (.inl z4)] M post := by
            refine am_ladd dX5_count_70 ?_
            obtain rfl := Option.some.inj h2
            exact am_drop [0, 1, 2, 3, 4] rfl KK3
          clear h2
          refine am_icmp_ge 69 dX5_count_52 rfl (fun b15 => ?_) (fun b15 => ?_)
          · replace h11 := am_ifT b15 h11
            refine am_lconst dX5_count_69 lc_0 ?_
            obtain rfl := Option.some.inj h11
            exact am_drop [0, 1, 2, 3, 4] rfl KK12
          · replace h11 := am_ifF b15 h11
            refine am_aload_n dX5_count_55 rfl ?_
            refine am_getR (o' := o0a) dX5_count_56 fl_RX5_69 sh_5 rfl rfl hk_5 ?_
            refine am_iload_n dX5_count_59 rfl ?_
            refine am_iconst dX5_count_60 ic_1 ?_
            refine am_isub dX5_count_61 ?_
            obtain ⟨g13, h11⟩ := am_grd h11
            refine am_aaload dX5_count_62 sh_630 rfl rfl hk_630 (am_inbE g13) ?_
            refine am_top (w := .inr (.inr (730, o0a, (a3 - (1 : Int32)).toNatClampNeg))) rfl ?_
            refine am_iload dX5_count_63 rfl ?_
            obtain ⟨g14, h11⟩ := am_grd h11
            refine am_laload dX5_count_65 sh_730 hk_730 (am_inbE g14) ?_
            refine am_goto 70 dX5_count_66 rfl ?_
            obtain rfl := Option.some.inj h11
            exact am_drop [0, 1, 2, 3, 4] rfl KK12
        clear h2
        refine am_if_le 48 dX5_count_29 rfl (fun b9 => ?_) (fun b9 => ?_)
        · replace h5 := am_ifT b9 h5
          refine am_lconst dX5_count_48 lc_0 ?_
          obtain rfl := Option.some.inj h5
          exact am_drop [0, 1, 2, 3, 4] rfl KK6
        · replace h5 := am_ifF b9 h5
          refine am_aload_n dX5_count_32 rfl ?_
          refine am_getR (o' := o0a) dX5_count_33 fl_RX5_69 sh_5 rfl rfl hk_5 ?_
          refine am_iload_n dX5_count_36 rfl ?_
          refine am_iconst dX5_count_37 ic_1 ?_
          refine am_isub dX5_count_38 ?_
          obtain ⟨g7, h5⟩ := am_grd h5
          refine am_aaload dX5_count_39 sh_630 rfl rfl hk_630 (am_inbE g7) ?_
          refine am_top (w := .inr (.inr (730, o0a, (a3 - (1 : Int32)).toNatClampNeg))) rfl ?_
          refine am_iload dX5_count_40 rfl ?_
          refine am_iconst dX5_count_42 ic_1 ?_
          refine am_isub dX5_count_43 ?_
          obtain ⟨g8, h5⟩ := am_grd h5
          refine am_laload dX5_count_44 sh_730 hk_730 (am_inbE g8) ?_
          refine am_goto 49 dX5_count_45 rfl ?_
          obtain rfl := Option.some.inj h5
          exact am_drop [0, 1, 2, 3, 4] rfl KK6
      · replace h2 := am_ifT b16 h2
        refine am_lconst dX5_count_23 lc_1 ?_
        refine am_goto 71 dX5_count_24 rfl ?_
        obtain rfl := Option.some.inj h2
        exact am_drop [0, 1, 2, 3, 4] rfl KK3
def l_X5_count_2 (o0a : Nat) (a1 : Int32) (a2 : Int32) : Nat → Int32 → am_M → Option (am_M)
  | 0, _, _ => none
  | n + 1, a3, M => (if (M.1 5 o0a 0 29) < a3 then some M else (l_X5_count_13 o0a a1 a2 a3 1000 (0 : Int32) M).bind (fun z32 => am_let (a3 + (1 : Int32)) (fun v35 => l_X5_count_2 o0a a1 a2 n v35 z32)))
set_option maxHeartbeats 4000000 in
theorem wl_X5_count_2 {K : am_K} {d : Nat} {post : Option am_V → am_M → Prop} {o0a : Nat} {a1 : Int32} {a2 : Int32} : ∀ (n : Nat) (a3 : Int32) (M : am_M) (x : am_M), l_X5_count_2 o0a a1 a2 n a3 M = some x → am_W K (d + 1) m_X5_count 128 [(0, .inr (.inr (5, o0a, 0)))] [] x post → am_W K (d + 1) m_X5_count 2 [(0, .inr (.inr (5, o0a, 0))), (1, .inl a1), (2, .inl a2), (3, .inl a3)] [] M post := by
  intro n
  induction n with
  | zero => intro a3 M x h KX; cases h
  | succ n ih =>
    intro a3 M x h KX
    rw [l_X5_count_2] at h
    refine am_iload_n dX5_count_2 rfl ?_
    refine am_aload_n dX5_count_3 rfl ?_
    refine am_getI dX5_count_4 fl_RX5_254 sh_5 rfl hk_5 ?_
    refine am_icmp_gt 128 dX5_count_7 rfl (fun b36 => ?_) (fun b36 => ?_)
    · replace h := am_ifT b36 h
      obtain rfl := Option.some.inj h
      exact am_drop [0] rfl KX
    · replace h := am_ifF b36 h
      refine am_iconst dX5_count_10 ic_0 ?_
      refine am_istore (ls' := [(0, .inr (.inr (5, o0a, 0))), (1, .inl a1), (2, .inl a2), (3, .inl a3), (4, .inl (0 : Int32))]) dX5_count_11 (Nat.le_of_ble_eq_true rfl) rfl ?_
      obtain ⟨z32, h33, h⟩ := am_bnd h
      have KK34 : am_W K (d + 1) m_X5_count 122 [(0, .inr (.inr (5, o0a, 0))), (1, .inl a1), (2, .inl a2), (3, .inl a3)] [] z32 post := by
        obtain ⟨v35, ev35, h⟩ := am_letE h
        refine am_iinc (ls' := [(0, .inr (.inr (5, o0a, 0))), (1, .inl a1), (2, .inl a2), (3, .inl v35)]) dX5_count_122 rfl ((congrArg (fun z => a3 + z) ic_1).trans ev35.symm) (Nat.le_of_ble_eq_true rfl) rfl ?_
        refine am_goto 2 dX5_count_125 rfl ?_
        exact am_drop [0, 1, 2, 3] rfl (ih _ _ _ h KX)
      exact am_drop [0, 1, 2, 3, 4] rfl (wl_X5_count_13 _ _ _ _ h33 KK34)
def l_X5_count_133 (M : am_M) (o0a : Nat) : Nat → Int64 → Int32 → Option (Int64)
  | 0, _, _ => none
  | n + 1, a3, a5 => (if (M.1 5 o0a 0 29) < a5 then some a3 else if am_inb (M.1 5 o0a 0 29) 25 = true then if am_inb a5 25 = true then am_let (a3 + (M.2 730 o0a (M.1 5 o0a 0 29).toNatClampNeg a5.toNatClampNeg)) (fun v42 => am_let (a5 + (1 : Int32)) (fun v43 => l_X5_count_133 M o0a n v42 v43)) else none else none)
set_option maxHeartbeats 4000000 in
theorem wl_X5_count_133 {K : am_K} {d : Nat} {post : Option am_V → am_M → Prop} {M : am_M} {o0a : Nat} : ∀ (n : Nat) (a3 : Int64) (a5 : Int32) (x : Int64), l_X5_count_133 M o0a n a3 a5 = some x → am_W K (d + 1) m_X5_count 163 [(3, .inr (.inl x))] [] M post → am_W K (d + 1) m_X5_count 133 [(0, .inr (.inr (5, o0a, 0))), (3, .inr (.inl a3)), (5, .inl a5)] [] M post := by
  intro n
  induction n with
  | zero => intro a3 a5 x h KX; cases h
  | succ n ih =>
    intro a3 a5 x h KX
    rw [l_X5_count_133] at h
    refine am_iload dX5_count_133 rfl ?_
    refine am_aload_n dX5_count_135 rfl ?_
    refine am_getI dX5_count_136 fl_RX5_254 sh_5 rfl hk_5 ?_
    refine am_icmp_gt 163 dX5_count_139 rfl (fun b44 => ?_) (fun b44 => ?_)
    · replace h := am_ifT b44 h
      obtain rfl := Option.some.inj h
      exact am_drop [3] rfl KX
    · replace h := am_ifF b44 h
      refine am_lload_n dX5_count_142 rfl ?_
      refine am_aload_n dX5_count_143 rfl ?_
      refine am_getR (o' := o0a) dX5_count_144 fl_RX5_69 sh_5 rfl rfl hk_5 ?_
      refine am_aload_n dX5_count_147 rfl ?_
      refine am_getI dX5_count_148 fl_RX5_254 sh_5 rfl hk_5 ?_
      obtain ⟨g40, h⟩ := am_grd h
      refine am_aaload dX5_count_151 sh_630 rfl rfl hk_630 (am_inbE g40) ?_
      refine am_top (w := .inr (.inr (730, o0a, (M.1 5 o0a 0 29).toNatClampNeg))) rfl ?_
      refine am_iload dX5_count_152 rfl ?_
      obtain ⟨g41, h⟩ := am_grd h
      refine am_laload dX5_count_154 sh_730 hk_730 (am_inbE g41) ?_
      refine am_ladd dX5_count_155 ?_
      obtain ⟨v42, ev42, h⟩ := am_letE h
      refine am_topL ev42 ?_
      refine am_lstore_n (ls' := [(0, .inr (.inr (5, o0a, 0))), (3, .inr (.inl v42)), (5, .inl a5)]) dX5_count_156 (Nat.le_of_ble_eq_true rfl) rfl ?_
      obtain ⟨v43, ev43, h⟩ := am_letE h
      refine am_iinc (ls' := [(0, .inr (.inr (5, o0a, 0))), (3, .inr (.inl v42)), (5, .inl v43)]) dX5_count_157 rfl ((congrArg (fun z => a5 + z) ic_1).trans ev43.symm) (Nat.le_of_ble_eq_true rfl) rfl ?_
      refine am_goto 133 dX5_count_160 rfl ?_
      exact am_drop [0, 3, 5] rfl (ih _ _ _ h KX)
def f_X5_count (M : am_M) (o : Nat) (x1 : Int32) (x2 : Int32) : Option (Int64 × am_M) :=
  (l_X5_count_2 o x1 x2 1000 (0 : Int32) M).bind (fun z37 => (l_X5_count_133 z37 o 1000 (0 : Int64) (0 : Int32)).bind (fun z45 => some (z45, z37)))
set_option maxHeartbeats 4000000 in
theorem w_X5_count {K : am_K} {d : Nat} {post : Option am_V → am_M → Prop} {M : am_M} {o : Nat} {x1 : Int32} {x2 : Int32} {y : Int64 × am_M} (h : f_X5_count M o x1 x2 = some y) (hp : post (some (.inr (.inl y.1))) y.2) : am_W K (d + 1) m_X5_count 0 [(0, .inr (.inr (5, o, 0))), (1, .inl x1), (2, .inl x2)] [] M post := by
  unfold f_X5_count at h
  refine am_iconst dX5_count_0 ic_0 ?_
  refine am_istore_n (ls' := [(0, .inr (.inr (5, o, 0))), (1, .inl x1), (2, .inl x2), (3, .inl (0 : Int32))]) dX5_count_1 (Nat.le_of_ble_eq_true rfl) rfl ?_
  obtain ⟨z37, h38, h⟩ := am_bnd h
  have KK39 : am_W K (d + 1) m_X5_count 128 [(0, .inr (.inr (5, o, 0)))] [] z37 post := by
    refine am_lconst dX5_count_128 lc_0 ?_
    refine am_lstore_n (ls' := [(0, .inr (.inr (5, o, 0))), (3, .inr (.inl (0 : Int64)))]) dX5_count_129 (Nat.le_of_ble_eq_true rfl) rfl ?_
    refine am_iconst dX5_count_130 ic_0 ?_
    refine am_istore (ls' := [(0, .inr (.inr (5, o, 0))), (3, .inr (.inl (0 : Int64))), (5, .inl (0 : Int32))]) dX5_count_131 (Nat.le_of_ble_eq_true rfl) rfl ?_
    obtain ⟨z45, h46, h⟩ := am_bnd h
    have KK47 : am_W K (d + 1) m_X5_count 163 [(3, .inr (.inl z45))] [] z37 post := by
      refine am_lload_n dX5_count_163 rfl ?_
      obtain rfl := Option.some.inj h
      exact am_lreturn dX5_count_164 rfl hp
    exact am_drop [0, 3, 5] rfl (wl_X5_count_133 _ _ _ _ h46 KK47)
  exact am_drop [0, 1, 2, 3] rfl (wl_X5_count_2 _ _ _ _ h38 KK39)
theorem c_X5_count {K : am_K} {d : Nat} {M : am_M} {o : Nat} {x1 : Int32} {x2 : Int32} {y : Int64 × am_M} (h : f_X5_count M o x1 x2 = some y) : am_Met K (d + 1) m_X5_count [.inr (.inr (5, o, 0)), .inl x1, .inl x2] M (fun q N => q = some (.inr (.inl y.1)) ∧ N = y.2) :=
  am_Met_of cb_X5_count (Nat.le_of_ble_eq_true rfl) (w_X5_count h ⟨rfl, rfl⟩)
