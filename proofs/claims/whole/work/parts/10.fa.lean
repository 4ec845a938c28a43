def f_X0_bits (M : am_M) (x0 : Int32) (x1 : Int32) : Option (Int32) :=
  ((if 0 ≤ x0 then some x0 else some (0 : Int32)) : Option (Int32)).bind (fun z1 => ((if x1 ≤ (24 : Int32) then some x1 else some (24 : Int32)) : Option (Int32)).bind (fun z5 => (if z1 ≤ z5 then some (((1 : Int32) <<< ((z5 + (1 : Int32)) &&& 31)) - ((1 : Int32) <<< (z1 &&& 31))) else some (0 : Int32))))
set_option maxHeartbeats 4000000 in
theorem w_X0_bits {K : am_K} {d : Nat} {post : Option am_V → am_M → Prop} {M : am_M} {x0 : Int32} {x1 : Int32} {y : Int32} (h : f_X0_bits M x0 x1 = some y) (hp : post (some (.inl y)) M) : am_W K d m_X0_bits 0 [(0, .inl x0), (1, .inl x1)] [] M post := by
  unfold f_X0_bits at h
  refine am_iload_n dX0_bits_0 rfl ?_
  obtain ⟨z1, h2, h⟩ := am_bnd h
  have KK3 : am_W K d m_X0_bits 9 [(1, .inl x1)] [.inl z1] M post := by
    refine am_istore_n (ls' := [(1, .inl x1), (2, .inl z1)]) dX0_bits_9 (Nat.le_of_ble_eq_true rfl) rfl ?_
    refine am_iload_n dX0_bits_10 rfl ?_
    refine am_bipush dX0_bits_11 bp_24 ?_
    obtain ⟨z5, h6, h⟩ := am_bnd h
    have KK7 : am_W K d m_X0_bits 22 [(2, .inl z1)] [.inl z5] M post := by
      refine am_istore_n (ls' := [(2, .inl z1), (3, .inl z5)]) dX0_bits_22 (Nat.le_of_ble_eq_true rfl) rfl ?_
      refine am_iload_n dX0_bits_23 rfl ?_
      refine am_iload_n dX0_bits_24 rfl ?_
      refine am_icmp_le 32 dX0_bits_25 rfl (fun b9 => ?_) (fun b9 => ?_)
      · replace h := am_ifT b9 h
        refine am_iconst dX0_bits_32 ic_1 ?_
        refine am_iload_n dX0_bits_33 rfl ?_
        refine am_iconst dX0_bits_34 ic_1 ?_
        refine am_iadd dX0_bits_35 ?_
        refine am_ishl dX0_bits_36 ?_
        refine am_iconst dX0_bits_37 ic_1 ?_
        refine am_iload_n dX0_bits_38 rfl ?_
        refine am_ishl dX0_bits_39 ?_
        refine am_isub dX0_bits_40 ?_
        obtain rfl := Option.some.inj h
        exact am_ireturn dX0_bits_41 rfl rfl hp
      · replace h := am_ifF b9 h
        refine am_iconst dX0_bits_28 ic_0 ?_
        refine am_goto 41 dX0_bits_29 rfl ?_
        obtain rfl := Option.some.inj h
        exact am_ireturn dX0_bits_41 rfl rfl hp
    clear h
    refine am_icmp_le 21 dX0_bits_13 rfl (fun b8 => ?_) (fun b8 => ?_)
    · replace h6 := am_ifT b8 h6
      refine am_iload_n dX0_bits_21 rfl ?_
      obtain rfl := Option.some.inj h6
      exact am_drop [2] rfl KK7
    · replace h6 := am_ifF b8 h6
      refine am_bipush dX0_bits_16 bp_24 ?_
      refine am_goto 22 dX0_bits_18 rfl ?_
      obtain rfl := Option.some.inj h6
      exact am_drop [2] rfl KK7
  clear h
  refine am_if_ge 8 dX0_bits_1 rfl (fun b4 => ?_) (fun b4 => ?_)
  · replace h2 := am_ifT b4 h2
    refine am_iload_n dX0_bits_8 rfl ?_
    obtain rfl := Option.some.inj h2
    exact am_drop [1] rfl KK3
  · replace h2 := am_ifF b4 h2
    refine am_iconst dX0_bits_4 ic_0 ?_
    refine am_goto 9 dX0_bits_5 rfl ?_
    obtain rfl := Option.some.inj h2
    exact am_drop [1] rfl KK3
theorem c_X0_bits {K : am_K} {d : Nat} {M : am_M} {x0 : Int32} {x1 : Int32} {y : Int32} (h : f_X0_bits M x0 x1 = some y) : am_Met K d m_X0_bits [.inl x0, .inl x1] M (fun q N => q = some (.inl y) ∧ N = M) :=
  am_Met_of cb_X0_bits (Nat.le_of_ble_eq_true rfl) (w_X0_bits h ⟨rfl, rfl⟩)
def l_X0_layHeap_2 (a1 : Int32) (a2 : Int32) : Nat → Int32 → am_M → Option (am_M)
  | 0, _, _ => none
  | n + 1, a3, M => (if (a1 + a2) < a3 then some M else (if (25 : Int32) ≤ ((M.1 0 0 0 0) + a3) then some M else (f_X0_bits M ((M.1 0 0 0 1) + (if (0 : Int32) < (a3 - a2) then (a3 - a2) else (0 : Int32))) ((M.1 0 0 0 1) + (if a1 < a3 then a1 else a3))).bind (fun r2 => if am_inb ((M.1 0 0 0 0) + a3) 25 = true then am_let (am_si M 103 0 0 ((M.1 0 0 0 0) + a3).toNatClampNeg r2) (fun M4 => am_let (a3 + (1 : Int32)) (fun v5 => l_X0_layHeap_2 a1 a2 n v5 M4)) else none)))
set_option maxHeartbeats 4000000 in
theorem wl_X0_layHeap_2 {K : am_K} {d : Nat} {post : Option am_V → am_M → Prop} {a1 : Int32} {a2 : Int32} : ∀ (n : Nat) (a3 : Int32) (M : am_M) (x : am_M), l_X0_layHeap_2 a1 a2 n a3 M = some x → am_W K (d + 1) m_X0_layHeap 62 [(0, .inr (.inr (0, 0, 0))), (1, .inl a1), (2, .inl a2)] [] x post → am_W K (d + 1) m_X0_layHeap 2 [(0, .inr (.inr (0, 0, 0))), (1, .inl a1), (2, .inl a2), (3, .inl a3)] [] M post := by
  intro n
  induction n with
  | zero => intro a3 M x h KX; cases h
  | succ n ih =>
    intro a3 M x h KX
    rw [l_X0_layHeap_2] at h
    refine am_iload_n dX0_layHeap_2 rfl ?_
    refine am_iload_n dX0_layHeap_3 rfl ?_
    refine am_iload_n dX0_layHeap_4 rfl ?_
    refine am_iadd dX0_layHeap_5 ?_
    refine am_icmp_gt 62 dX0_layHeap_6 rfl (fun b7 => ?_) (fun b7 => ?_)
    · replace h := am_ifT b7 h
      obtain rfl := Option.some.inj h
      exact am_drop [0, 1, 2] rfl KX
    · replace h := am_ifF b7 h
      refine am_aload_n dX0_layHeap_9 rfl ?_
      refine am_getI dX0_layHeap_10 fl_RX0_88 sh_0 rfl hk_0 ?_
      refine am_iload_n dX0_layHeap_13 rfl ?_
      refine am_iadd dX0_layHeap_14 ?_
      refine am_bipush dX0_layHeap_15 bp_25 ?_
      refine am_icmp_ge 62 dX0_layHeap_17 rfl (fun b6 => ?_) (fun b6 => ?_)
      · replace h := am_ifT b6 h
        obtain rfl := Option.some.inj h
        exact am_drop [0, 1, 2] rfl KX
      · replace h := am_ifF b6 h
        refine am_aload_n dX0_layHeap_20 rfl ?_
        refine am_getR (o' := 0) dX0_layHeap_21 fl_RX0_15 sh_0 rfl rfl hk_0 ?_
        refine am_aload_n dX0_layHeap_24 rfl ?_
        refine am_getI dX0_layHeap_25 fl_RX0_88 sh_0 rfl hk_0 ?_
        refine am_iload_n dX0_layHeap_28 rfl ?_
        refine am_iadd dX0_layHeap_29 ?_
        refine am_aload_n dX0_layHeap_30 rfl ?_
        refine am_getI dX0_layHeap_31 fl_RX0_91 sh_0 rfl hk_0 ?_
        refine am_iconst dX0_layHeap_34 ic_0 ?_
        refine am_iload_n dX0_layHeap_35 rfl ?_
        refine am_iload_n dX0_layHeap_36 rfl ?_
        refine am_isub dX0_layHeap_37 ?_
        refine am_mmax dX0_layHeap_38 cm_RX0_92 (Nat.le_of_ble_eq_true rfl) ?_
        refine am_iadd dX0_layHeap_41 ?_
        refine am_aload_n dX0_layHeap_42 rfl ?_
        refine am_getI dX0_layHeap_43 fl_RX0_91 sh_0 rfl hk_0 ?_
        refine am_iload_n dX0_layHeap_46 rfl ?_
        refine am_iload_n dX0_layHeap_47 rfl ?_
        refine am_mmin dX0_layHeap_48 cm_RX0_98 (Nat.le_of_ble_eq_true rfl) ?_
        refine am_iadd dX0_layHeap_51 ?_
        obtain ⟨r2, c1, h⟩ := am_bnd h
        refine am_callSi (as := [.inl ((M.1 0 0 0 1) + (if (0 : Int32) < (a3 - a2) then (a3 - a2) else (0 : Int32))), .inl ((M.1 0 0 0 1) + (if a1 < a3 then a1 else a3))]) dX0_layHeap_52 cs_RX0_101 cb_X0_bits rfl rfl (Nat.le_of_ble_eq_true rfl) (c_X0_bits c1) ?_
        obtain ⟨g3, h⟩ := am_grd h
        obtain ⟨M4, eM4, h⟩ := am_letE h
        refine am_iastore dX0_layHeap_55 sh_103 hk_103 (am_inbE g3) ?_
        refine am_mem eM4 ?_
        obtain ⟨v5, ev5, h⟩ := am_letE h
        refine am_iinc (ls' := [(0, .inr (.inr (0, 0, 0))), (1, .inl a1), (2, .inl a2), (3, .inl v5)]) dX0_layHeap_56 rfl ((congrArg (fun z => a3 + z) ic_1).trans ev5.symm) (Nat.le_of_ble_eq_true rfl) rfl ?_
        refine am_goto 2 dX0_layHeap_59 rfl ?_
        exact am_drop [0, 1, 2, 3] rfl (ih _ _ _ h KX)
def f_X0_layHeap (M : am_M) (x1 : Int32) (x2 : Int32) : Option (am_M) :=
  (l_X0_layHeap_2 x1 x2 1000 (1 : Int32) M).bind (fun z8 => am_let (am_si z8 0 0 0 0 (if (((z8.1 0 0 0 0) + x1) + x2) < (24 : Int32) then (((z8.1 0 0 0 0) + x1) + x2) else (24 : Int32))) (fun M11 => am_let (am_si M11 0 0 0 1 (if ((M11.1 0 0 0 1) + x1) < (24 : Int32) then ((M11.1 0 0 0 1) + x1) else (24 : Int32))) (fun M12 => some M12)))
set_option maxHeartbeats 4000000 in
theorem w_X0_layHeap {K : am_K} {d : Nat} {post : Option am_V → am_M → Prop} {M : am_M} {x1 : Int32} {x2 : Int32} {y : am_M} (h : f_X0_layHeap M x1 x2 = some y) (hp : post none y) : am_W K (d + 1) m_X0_layHeap 0 [(0, .inr (.inr (0, 0, 0))), (1, .inl x1), (2, .inl x2)] [] M post := by
  unfold f_X0_layHeap at h
  refine am_iconst dX0_layHeap_0 ic_1 ?_
  refine am_istore_n (ls' := [(0, .inr (.inr (0, 0, 0))), (1, .inl x1), (2, .inl x2), (3, .inl (1 : Int32))]) dX0_layHeap_1 (Nat.le_of_ble_eq_true rfl) rfl ?_
  obtain ⟨z8, h9, h⟩ := am_bnd h
  have KK10 : am_W K (d + 1) m_X0_layHeap 62 [(0, .inr (.inr (0, 0, 0))), (1, .inl x1), (2, .inl x2)] [] z8 post := by
    refine am_aload_n dX0_layHeap_62 rfl ?_
    refine am_bipush dX0_layHeap_63 bp_24 ?_
    refine am_aload_n dX0_layHeap_65 rfl ?_
    refine am_getI dX0_layHeap_66 fl_RX0_88 sh_0 rfl hk_0 ?_
    refine am_iload_n dX0_layHeap_69 rfl ?_
    refine am_iadd dX0_layHeap_70 ?_
    refine am_iload_n dX0_layHeap_71 rfl ?_
    refine am_iadd dX0_layHeap_72 ?_
    refine am_mmin dX0_layHeap_73 cm_RX0_98 (Nat.le_of_ble_eq_true rfl) ?_
    obtain ⟨M11, eM11, h⟩ := am_letE h
    refine am_putI dX0_layHeap_76 fl_RX0_88 fp_X0_0 sh_0 rfl rfl rfl hk_0 ?_
    refine am_mem eM11 ?_
    refine am_aload_n dX0_layHeap_79 rfl ?_
    refine am_bipush dX0_layHeap_80 bp_24 ?_
    refine am_aload_n dX0_layHeap_82 rfl ?_
    refine am_getI dX0_layHeap_83 fl_RX0_91 sh_0 rfl hk_0 ?_
    refine am_iload_n dX0_layHeap_86 rfl ?_
    refine am_iadd dX0_layHeap_87 ?_
    refine am_mmin dX0_layHeap_88 cm_RX0_98 (Nat.le_of_ble_eq_true rfl) ?_
    obtain ⟨M12, eM12, h⟩ := am_letE h
    refine am_putI dX0_layHeap_91 fl_RX0_91 fp_X0_1 sh_0 rfl rfl rfl hk_0 ?_
    refine am_mem eM12 ?_
    obtain rfl := Option.some.inj h
    exact am_return dX0_layHeap_94 rfl hp
  exact am_drop [0, 1, 2, 3] rfl (wl_X0_layHeap_2 _ _ _ _ h9 KK10)
theorem c_X0_layHeap {K : am_K} {d : Nat} {M : am_M} {x1 : Int32} {x2 : Int32} {y : am_M} (h : f_X0_layHeap M x1 x2 = some y) : am_Met K (d + 1) m_X0_layHeap [.inr (.inr (0, 0, 0)), .inl x1, .inl x2] M (fun q N => q = none ∧ N = y) :=
  am_Met_of cb_X0_layHeap (Nat.le_of_ble_eq_true rfl) (w_X0_layHeap h ⟨rfl, rfl⟩)
def f_X0_layNothing (M : am_M)  : Option (am_M) :=
  am_let (am_si M 0 0 0 0 (0 : Int32)) (fun M1 => am_let (am_si M1 0 0 0 1 (0 : Int32)) (fun M2 => am_let (am_si M2 103 0 0 (0 : Int32).toNatClampNeg (1 : Int32)) (fun M3 => some M3)))
set_option maxHeartbeats 4000000 in
theorem w_X0_layNothing {K : am_K} {d : Nat} {post : Option am_V → am_M → Prop} {M : am_M}  {y : am_M} (h : f_X0_layNothing M  = some y) (hp : post none y) : am_W K d m_X0_layNothing 0 [(0, .inr (.inr (0, 0, 0)))] [] M post := by
  unfold f_X0_layNothing at h
  refine am_aload_n dX0_layNothing_0 rfl ?_
  refine am_iconst dX0_layNothing_1 ic_0 ?_
  obtain ⟨M1, eM1, h⟩ := am_letE h
  refine am_putI dX0_layNothing_2 fl_RX0_88 fp_X0_0 sh_0 rfl rfl rfl hk_0 ?_
  refine am_mem eM1 ?_
  refine am_aload_n dX0_layNothing_5 rfl ?_
  refine am_iconst dX0_layNothing_6 ic_0 ?_
  obtain ⟨M2, eM2, h⟩ := am_letE h
  refine am_putI dX0_layNothing_7 fl_RX0_91 fp_X0_1 sh_0 rfl rfl rfl hk_0 ?_
  refine am_mem eM2 ?_
  refine am_aload_n dX0_layNothing_10 rfl ?_
  refine am_getR (o' := 0) dX0_layNothing_11 fl_RX0_15 sh_0 rfl rfl hk_0 ?_
  refine am_iconst dX0_layNothing_14 ic_0 ?_
  refine am_iconst dX0_layNothing_15 ic_1 ?_
  obtain ⟨M3, eM3, h⟩ := am_letE h
  refine am_iastore dX0_layNothing_16 sh_103 hk_103 (am_inbE (by decide)) ?_
  refine am_mem eM3 ?_
  obtain rfl := Option.some.inj h
  exact am_return dX0_layNothing_17 rfl hp
theorem c_X0_layNothing {K : am_K} {d : Nat} {M : am_M}  {y : am_M} (h : f_X0_layNothing M  = some y) : am_Met K d m_X0_layNothing [.inr (.inr (0, 0, 0))] M (fun q N => q = none ∧ N = y) :=
  am_Met_of cb_X0_layNothing (Nat.le_of_ble_eq_true rfl) (w_X0_layNothing h ⟨rfl, rfl⟩)
def l_X0_layHeaps_6 (k2 : Nat) (p2 : Nat) (q2 : Nat) (n2 : Nat) (o1a : Nat) : Nat → Int32 → am_M → Option (am_M)
  | 0, _, _ => none
  | n + 1, a3, M => (if (M.1 1 o1a 0 0) ≤ a3 then some M else (if (Int32.ofNat n2) ≤ a3 then some M else if am_inb a3 n2 = true then if am_inb (M.1 k2 p2 q2 a3.toNatClampNeg) 4 = true then if am_inb a3 n2 = true then if am_inb (M.1 k2 p2 q2 a3.toNatClampNeg) 4 = true then (f_X0_layHeap M (M.1 203 o1a 0 (M.1 k2 p2 q2 a3.toNatClampNeg).toNatClampNeg) (M.1 204 o1a 0 (M.1 k2 p2 q2 a3.toNatClampNeg).toNatClampNeg)).bind (fun r8 => am_let (a3 + (1 : Int32)) (fun v9 => l_X0_layHeaps_6 k2 p2 q2 n2 o1a n v9 r8)) else none else none else none else none))
set_option maxHeartbeats 4000000 in
theorem wl_X0_layHeaps_6 {K : am_K} {d : Nat} {post : Option am_V → am_M → Prop} {k2 : Nat} {p2 : Nat} {q2 : Nat} {n2 : Nat} {o1a : Nat} (hs2 : am_sh k2 = .inr (.inl (0, n2))) (hk2 : k2 < 9000) : ∀ (n : Nat) (a3 : Int32) (M : am_M) (x : am_M), l_X0_layHeaps_6 k2 p2 q2 n2 o1a n a3 M = some x → am_W K (d + 2) m_X0_layHeaps 46 [] [] x post → am_W K (d + 2) m_X0_layHeaps 6 [(0, .inr (.inr (0, 0, 0))), (1, .inr (.inr (1, o1a, 0))), (2, .inr (.inr (k2, p2, q2))), (3, .inl a3)] [] M post := by
  intro n
  induction n with
  | zero => intro a3 M x h KX; cases h
  | succ n ih =>
    intro a3 M x h KX
    rw [l_X0_layHeaps_6] at h
    refine am_iload_n dX0_layHeaps_6 rfl ?_
    refine am_aload_n dX0_layHeaps_7 rfl ?_
    refine am_getI dX0_layHeaps_8 fl_RX0_34 sh_1 rfl hk_1 ?_
    refine am_icmp_ge 46 dX0_layHeaps_11 rfl (fun b11 => ?_) (fun b11 => ?_)
    · replace h := am_ifT b11 h
      obtain rfl := Option.some.inj h
      exact am_drop [] rfl KX
    · replace h := am_ifF b11 h
      refine am_iload_n dX0_layHeaps_14 rfl ?_
      refine am_aload_n dX0_layHeaps_15 rfl ?_
      refine am_alen dX0_layHeaps_16 hs2 (by decide) hk2 rfl ?_
      refine am_icmp_ge 46 dX0_layHeaps_17 rfl (fun b10 => ?_) (fun b10 => ?_)
      · replace h := am_ifT b10 h
        obtain rfl := Option.some.inj h
        exact am_drop [] rfl KX
      · replace h := am_ifF b10 h
        refine am_aload_n dX0_layHeaps_20 rfl ?_
        refine am_aload_n dX0_layHeaps_21 rfl ?_
        refine am_getR (o' := o1a) dX0_layHeaps_22 fl_RX0_40 sh_1 rfl rfl hk_1 ?_
        refine am_aload_n dX0_layHeaps_25 rfl ?_
        refine am_iload_n dX0_layHeaps_26 rfl ?_
        obtain ⟨g3, h⟩ := am_grd h
        refine am_iaload dX0_layHeaps_27 hs2 hk2 (am_inbE g3) ?_
        obtain ⟨g4, h⟩ := am_grd h
        refine am_iaload dX0_layHeaps_28 sh_203 hk_203 (am_inbE g4) ?_
        refine am_aload_n dX0_layHeaps_29 rfl ?_
        refine am_getR (o' := o1a) dX0_layHeaps_30 fl_RX0_43 sh_1 rfl rfl hk_1 ?_
        refine am_aload_n dX0_layHeaps_33 rfl ?_
        refine am_iload_n dX0_layHeaps_34 rfl ?_
        obtain ⟨g5, h⟩ := am_grd h
        refine am_iaload dX0_layHeaps_35 hs2 hk2 (am_inbE g5) ?_
        obtain ⟨g6, h⟩ := am_grd h
        refine am_iaload dX0_layHeaps_36 sh_204 hk_204 (am_inbE g6) ?_
        obtain ⟨r8, c7, h⟩ := am_bnd h
        refine am_callVv (as := [.inl (M.1 203 o1a 0 (M.1 k2 p2 q2 a3.toNatClampNeg).toNatClampNeg), .inl (M.1 204 o1a 0 (M.1 k2 p2 q2 a3.toNatClampNeg).toNatClampNeg)]) dX0_layHeaps_37 cv_RX0_46 cb_X0_layHeap sh_0 rfl hk_0 rfl rfl (Nat.le_of_ble_eq_true rfl) (c_X0_layHeap c7) ?_
        obtain ⟨v9, ev9, h⟩ := am_letE h
        refine am_iinc (ls' := [(0, .inr (.inr (0, 0, 0))), (1, .inr (.inr (1, o1a, 0))), (2, .inr (.inr (k2, p2, q2))), (3, .inl v9)]) dX0_layHeaps_40 rfl ((congrArg (fun z => a3 + z) ic_1).trans ev9.symm) (Nat.le_of_ble_eq_true rfl) rfl ?_
        refine am_goto 6 dX0_layHeaps_43 rfl ?_
        exact am_drop [0, 1, 2, 3] rfl (ih _ _ _ h KX)
def f_X0_layHeaps (M : am_M) (o1 : Nat) (k2 : Nat) (p2 : Nat) (q2 : Nat) (n2 : Nat) : Option (am_M) :=
  (f_X0_layNothing M).bind (fun r2 => (l_X0_layHeaps_6 k2 p2 q2 n2 o1 1000 (0 : Int32) r2).bind (fun z12 => some z12))
set_option maxHeartbeats 4000000 in
theorem w_X0_layHeaps {K : am_K} {d : Nat} {post : Option am_V → am_M → Prop} {M : am_M} {o1 : Nat} {k2 : Nat} {p2 : Nat} {q2 : Nat} {n2 : Nat} (hs2 : am_sh k2 = .inr (.inl (0, n2))) (hk2 : k2 < 9000) {y : am_M} (h : f_X0_layHeaps M o1 k2 p2 q2 n2 = some y) (hp : post none y) : am_W K (d + 2) m_X0_layHeaps 0 [(0, .inr (.inr (0, 0, 0))), (1, .inr (.inr (1, o1, 0))), (2, .inr (.inr (k2, p2, q2)))] [] M post := by
  unfold f_X0_layHeaps at h
  refine am_aload_n dX0_layHeaps_0 rfl ?_
  obtain ⟨r2, c1, h⟩ := am_bnd h
  refine am_callVv (as := []) dX0_layHeaps_1 cv_RX0_31 cb_X0_layNothing sh_0 rfl hk_0 rfl rfl (Nat.le_of_ble_eq_true rfl) (c_X0_layNothing c1) ?_
  refine am_iconst dX0_layHeaps_4 ic_0 ?_
  refine am_istore_n (ls' := [(0, .inr (.inr (0, 0, 0))), (1, .inr (.inr (1, o1, 0))), (2, .inr (.inr (k2, p2, q2))), (3, .inl (0 : Int32))]) dX0_layHeaps_5 (Nat.le_of_ble_eq_true rfl) rfl ?_
  obtain ⟨z12, h13, h⟩ := am_bnd h
  have KK14 : am_W K (d + 2) m_X0_layHeaps 46 [] [] z12 post := by
    obtain rfl := Option.some.inj h
    exact am_return dX0_layHeaps_46 rfl hp
  exact am_drop [0, 1, 2, 3] rfl (wl_X0_layHeaps_6 hs2 hk2 _ _ _ _ h13 KK14)
theorem c_X0_layHeaps {K : am_K} {d : Nat} {M : am_M} {o1 : Nat} {k2 : Nat} {p2 : Nat} {q2 : Nat} {n2 : Nat} (hs2 : am_sh k2 = .inr (.inl (0, n2))) (hk2 : k2 < 9000) {y : am_M} (h : f_X0_layHeaps M o1 k2 p2 q2 n2 = some y) : am_Met K (d + 2) m_X0_layHeaps [.inr (.inr (0, 0, 0)), .inr (.inr (1, o1, 0)), .inr (.inr (k2, p2, q2))] M (fun q N => q = none ∧ N = y) :=
  am_Met_of cb_X0_layHeaps (Nat.le_of_ble_eq_true rfl) (w_X0_layHeaps hs2 hk2 h ⟨rfl, rfl⟩)
def f_X0_layShaken (M : am_M) (o1 : Nat) : Option (am_M) :=
  (f_X0_layNothing M).bind (fun r2 => (f_X0_layHeap r2 (r2.1 1 o1 0 2) ((r2.1 1 o1 0 1) - (r2.1 1 o1 0 2))).bind (fun r4 => some r4))
set_option maxHeartbeats 4000000 in
theorem w_X0_layShaken {K : am_K} {d : Nat} {post : Option am_V → am_M → Prop} {M : am_M} {o1 : Nat} {y : am_M} (h : f_X0_layShaken M o1 = some y) (hp : post none y) : am_W K (d + 2) m_X0_layShaken 0 [(0, .inr (.inr (0, 0, 0))), (1, .inr (.inr (1, o1, 0)))] [] M post := by
  unfold f_X0_layShaken at h
  refine am_aload_n dX0_layShaken_0 rfl ?_
  obtain ⟨r2, c1, h⟩ := am_bnd h
  refine am_callVv (as := []) dX0_layShaken_1 cv_RX0_31 cb_X0_layNothing sh_0 rfl hk_0 rfl rfl (Nat.le_of_ble_eq_true rfl) (c_X0_layNothing c1) ?_
  refine am_aload_n dX0_layShaken_4 rfl ?_
  refine am_aload_n dX0_layShaken_5 rfl ?_
  refine am_getI dX0_layShaken_6 fl_RX0_50 sh_1 rfl hk_1 ?_
  refine am_aload_n dX0_layShaken_9 rfl ?_
  refine am_getI dX0_layShaken_10 fl_RX0_53 sh_1 rfl hk_1 ?_
  refine am_aload_n dX0_layShaken_13 rfl ?_
  refine am_getI dX0_layShaken_14 fl_RX0_50 sh_1 rfl hk_1 ?_
  refine am_isub dX0_layShaken_17 ?_
  obtain ⟨r4, c3, h⟩ := am_bnd h
  refine am_callVv (as := [.inl (r2.1 1 o1 0 2), .inl ((r2.1 1 o1 0 1) - (r2.1 1 o1 0 2))]) dX0_layShaken_18 cv_RX0_46 cb_X0_layHeap sh_0 rfl hk_0 rfl rfl (Nat.le_of_ble_eq_true rfl) (c_X0_layHeap c3) ?_
  obtain rfl := Option.some.inj h
  exact am_return dX0_layShaken_21 rfl hp
theorem c_X0_layShaken {K : am_K} {d : Nat} {M : am_M} {o1 : Nat} {y : am_M} (h : f_X0_layShaken M o1 = some y) : am_Met K (d + 2) m_X0_layShaken [.inr (.inr (0, 0, 0)), .inr (.inr (1, o1, 0))] M (fun q N => q = none ∧ N = y) :=
  am_Met_of cb_X0_layShaken (Nat.le_of_ble_eq_true rfl) (w_X0_layShaken h ⟨rfl, rfl⟩)
def f_X0_keepAt (M : am_M) (x1 : Int32) (x2 : Int32) : Option (am_M) :=
  (if (M.1 0 0 0 0) < x1 then some M else if am_inb x1 25 = true then (f_X0_bits M x2 x2).bind (fun r3 => if am_inb x1 25 = true then am_let (am_si M 103 0 0 x1.toNatClampNeg ((M.1 103 0 0 x1.toNatClampNeg) &&& r3)) (fun M5 => some M5) else none) else none)
set_option maxHeartbeats 4000000 in
theorem w_X0_keepAt {K : am_K} {d : Nat} {post : Option am_V → am_M → Prop} {M : am_M} {x1 : Int32} {x2 : Int32} {y : am_M} (h : f_X0_keepAt M x1 x2 = some y) (hp : post none y) : am_W K (d + 1) m_X0_keepAt 0 [(0, .inr (.inr (0, 0, 0))), (1, .inl x1), (2, .inl x2)] [] M post := by
  unfold f_X0_keepAt at h
  refine am_iload_n dX0_keepAt_0 rfl ?_
  refine am_aload_n dX0_keepAt_1 rfl ?_
  refine am_getI dX0_keepAt_2 fl_RX0_88 sh_0 rfl hk_0 ?_
  refine am_icmp_gt 22 dX0_keepAt_5 rfl (fun b6 => ?_) (fun b6 => ?_)
  · replace h := am_ifT b6 h
    obtain rfl := Option.some.inj h
    exact am_return dX0_keepAt_22 rfl hp
  · replace h := am_ifF b6 h
    refine am_aload_n dX0_keepAt_8 rfl ?_
    refine am_getR (o' := 0) dX0_keepAt_9 fl_RX0_15 sh_0 rfl rfl hk_0 ?_
    refine am_iload_n dX0_keepAt_12 rfl ?_
    refine am_dup2 dX0_keepAt_13 rfl rfl ?_
    obtain ⟨g1, h⟩ := am_grd h
    refine am_iaload dX0_keepAt_14 sh_103 hk_103 (am_inbE g1) ?_
    refine am_iload_n dX0_keepAt_15 rfl ?_
    refine am_iload_n dX0_keepAt_16 rfl ?_
    obtain ⟨r3, c2, h⟩ := am_bnd h
    refine am_callSi (as := [.inl x2, .inl x2]) dX0_keepAt_17 cs_RX0_101 cb_X0_bits rfl rfl (Nat.le_of_ble_eq_true rfl) (c_X0_bits c2) ?_
    refine am_iand dX0_keepAt_20 ?_
    obtain ⟨g4, h⟩ := am_grd h
    obtain ⟨M5, eM5, h⟩ := am_letE h
    refine am_iastore dX0_keepAt_21 sh_103 hk_103 (am_inbE g4) ?_
    refine am_mem eM5 ?_
    obtain rfl := Option.some.inj h
    exact am_return dX0_keepAt_22 rfl hp
theorem c_X0_keepAt {K : am_K} {d : Nat} {M : am_M} {x1 : Int32} {x2 : Int32} {y : am_M} (h : f_X0_keepAt M x1 x2 = some y) : am_Met K (d + 1) m_X0_keepAt [.inr (.inr (0, 0, 0)), .inl x1, .inl x2] M (fun q N => q = none ∧ N = y) :=
  am_Met_of cb_X0_keepAt (Nat.le_of_ble_eq_true rfl) (w_X0_keepAt h ⟨rfl, rfl⟩)
def f_X0_leastAhead (M : am_M) (x0 : Int32) (x1 : Int32) : Option (Int32) :=
  (if 0 ≤ x0 then if ¬ (x0 + (1 : Int32)) = 0 then some (((x0 * x1) / (x0 + (1 : Int32))) + (1 : Int32)) else none else some (0 : Int32))
set_option maxHeartbeats 4000000 in
theorem w_X0_leastAhead {K : am_K} {d : Nat} {post : Option am_V → am_M → Prop} {M : am_M} {x0 : Int32} {x1 : Int32} {y : Int32} (h : f_X0_leastAhead M x0 x1 = some y) (hp : post (some (.inl y)) M) : am_W K d m_X0_leastAhead 0 [(0, .inl x0), (1, .inl x1)] [] M post := by
  unfold f_X0_leastAhead at h
  refine am_iload_n dX0_leastAhead_0 rfl ?_
  refine am_if_ge 8 dX0_leastAhead_1 rfl (fun b2 => ?_) (fun b2 => ?_)
  · replace h := am_ifT b2 h
    refine am_iload_n dX0_leastAhead_8 rfl ?_
    refine am_iload_n dX0_leastAhead_9 rfl ?_
    refine am_imul dX0_leastAhead_10 ?_
    refine am_iload_n dX0_leastAhead_11 rfl ?_
    refine am_iconst dX0_leastAhead_12 ic_1 ?_
    refine am_iadd dX0_leastAhead_13 ?_
    obtain ⟨g1, h⟩ := am_grd h
    refine am_idiv dX0_leastAhead_14 g1 ?_
    refine am_iconst dX0_leastAhead_15 ic_1 ?_
    refine am_iadd dX0_leastAhead_16 ?_
    obtain rfl := Option.some.inj h
    exact am_ireturn dX0_leastAhead_17 rfl rfl hp
  · replace h := am_ifF b2 h
    refine am_iconst dX0_leastAhead_4 ic_0 ?_
    refine am_goto 17 dX0_leastAhead_5 rfl ?_
    obtain rfl := Option.some.inj h
    exact am_ireturn dX0_leastAhead_17 rfl rfl hp
theorem c_X0_leastAhead {K : am_K} {d : Nat} {M : am_M} {x0 : Int32} {x1 : Int32} {y : Int32} (h : f_X0_leastAhead M x0 x1 = some y) : am_Met K d m_X0_leastAhead [.inl x0, .inl x1] M (fun q N => q = some (.inl y) ∧ N = M) :=
  am_Met_of cb_X0_leastAhead (Nat.le_of_ble_eq_true rfl) (w_X0_leastAhead h ⟨rfl, rfl⟩)
def f_X0_aheadBits (M : am_M) (x0 : Int32) (x1 : Int32) : Option (Int32) :=
  (f_X0_leastAhead M x0 x1).bind (fun r2 => (f_X0_bits M r2 (24 : Int32)).bind (fun r4 => some r4))
set_option maxHeartbeats 4000000 in
theorem w_X0_aheadBits {K : am_K} {d : Nat} {post : Option am_V → am_M → Prop} {M : am_M} {x0 : Int32} {x1 : Int32} {y : Int32} (h : f_X0_aheadBits M x0 x1 = some y) (hp : post (some (.inl y)) M) : am_W K (d + 1) m_X0_aheadBits 0 [(0, .inl x0), (1, .inl x1)] [] M post := by
  unfold f_X0_aheadBits at h
  refine am_iload_n dX0_aheadBits_0 rfl ?_
  refine am_iload_n dX0_aheadBits_1 rfl ?_
  obtain ⟨r2, c1, h⟩ := am_bnd h
  refine am_callSi (as := [.inl x0, .inl x1]) dX0_aheadBits_2 cs_RX0_124 cb_X0_leastAhead rfl rfl (Nat.le_of_ble_eq_true rfl) (c_X0_leastAhead c1) ?_
  refine am_bipush dX0_aheadBits_5 bp_24 ?_
  obtain ⟨r4, c3, h⟩ := am_bnd h
  refine am_callSi (as := [.inl r2, .inl (24 : Int32)]) dX0_aheadBits_7 cs_RX0_101 cb_X0_bits rfl rfl (Nat.le_of_ble_eq_true rfl) (c_X0_bits c3) ?_
  obtain rfl := Option.some.inj h
  exact am_ireturn dX0_aheadBits_10 rfl rfl hp
theorem c_X0_aheadBits {K : am_K} {d : Nat} {M : am_M} {x0 : Int32} {x1 : Int32} {y : Int32} (h : f_X0_aheadBits M x0 x1 = some y) : am_Met K (d + 1) m_X0_aheadBits [.inl x0, .inl x1] M (fun q N => q = some (.inl y) ∧ N = M) :=
  am_Met_of cb_X0_aheadBits (Nat.le_of_ble_eq_true rfl) (w_X0_aheadBits h ⟨rfl, rfl⟩)
def l_X0_keepAhead_3 (a1 : Int32) (a3 : Int32) : Nat → Int32 → am_M → Option (am_M)
  | 0, _, _ => none
  | n + 1, a4, M => (if a3 < a4 then some M else (if (M.1 0 0 0 0) < a4 then some M else if am_inb a4 25 = true then (f_X0_aheadBits M a1 a4).bind (fun r3 => if am_inb a4 25 = true then am_let (am_si M 103 0 0 a4.toNatClampNeg ((M.1 103 0 0 a4.toNatClampNeg) &&& r3)) (fun M5 => am_let (a4 + (1 : Int32)) (fun v6 => l_X0_keepAhead_3 a1 a3 n v6 M5)) else none) else none))
set_option maxHeartbeats 4000000 in
theorem wl_X0_keepAhead_3 {K : am_K} {d : Nat} {post : Option am_V → am_M → Prop} {a1 : Int32} {a3 : Int32} : ∀ (n : Nat) (a4 : Int32) (M : am_M) (x : am_M), l_X0_keepAhead_3 a1 a3 n a4 M = some x → am_W K (d + 2) m_X0_keepAhead 40 [] [] x post → am_W K (d + 2) m_X0_keepAhead 3 [(0, .inr (.inr (0, 0, 0))), (1, .inl a1), (3, .inl a3), (4, .inl a4)] [] M post := by
  intro n
  induction n with
  | zero => intro a4 M x h KX; cases h
  | succ n ih =>
    intro a4 M x h KX
    rw [l_X0_keepAhead_3] at h
    refine am_iload dX0_keepAhead_3 rfl ?_
    refine am_iload_n dX0_keepAhead_5 rfl ?_
    refine am_icmp_gt 40 dX0_keepAhead_6 rfl (fun b8 => ?_) (fun b8 => ?_)
    · replace h := am_ifT b8 h
      obtain rfl := Option.some.inj h
      exact am_drop [] rfl KX
    · replace h := am_ifF b8 h
      refine am_iload dX0_keepAhead_9 rfl ?_
      refine am_aload_n dX0_keepAhead_11 rfl ?_
      refine am_getI dX0_keepAhead_12 fl_RX0_88 sh_0 rfl hk_0 ?_
      refine am_icmp_gt 40 dX0_keepAhead_15 rfl (fun b7 => ?_) (fun b7 => ?_)
      · replace h := am_ifT b7 h
        obtain rfl := Option.some.inj h
        exact am_drop [] rfl KX
      · replace h := am_ifF b7 h
        refine am_aload_n dX0_keepAhead_18 rfl ?_
        refine am_getR (o' := 0) dX0_keepAhead_19 fl_RX0_15 sh_0 rfl rfl hk_0 ?_
        refine am_iload dX0_keepAhead_22 rfl ?_
        refine am_dup2 dX0_keepAhead_24 rfl rfl ?_
        obtain ⟨g1, h⟩ := am_grd h
        refine am_iaload dX0_keepAhead_25 sh_103 hk_103 (am_inbE g1) ?_
        refine am_iload_n dX0_keepAhead_26 rfl ?_
        refine am_iload dX0_keepAhead_27 rfl ?_
        obtain ⟨r3, c2, h⟩ := am_bnd h
        refine am_callSi (as := [.inl a1, .inl a4]) dX0_keepAhead_29 cs_RX0_114 cb_X0_aheadBits rfl rfl (Nat.le_of_ble_eq_true rfl) (c_X0_aheadBits c2) ?_
        refine am_iand dX0_keepAhead_32 ?_
        obtain ⟨g4, h⟩ := am_grd h
        obtain ⟨M5, eM5, h⟩ := am_letE h
        refine am_iastore dX0_keepAhead_33 sh_103 hk_103 (am_inbE g4) ?_
        refine am_mem eM5 ?_
        obtain ⟨v6, ev6, h⟩ := am_letE h
        refine am_iinc (ls' := [(0, .inr (.inr (0, 0, 0))), (1, .inl a1), (3, .inl a3), (4, .inl v6)]) dX0_keepAhead_34 rfl ((congrArg (fun z => a4 + z) ic_1).trans ev6.symm) (Nat.le_of_ble_eq_true rfl) rfl ?_
        refine am_goto 3 dX0_keepAhead_37 rfl ?_
        exact am_drop [0, 1, 3, 4] rfl (ih _ _ _ h KX)
def f_X0_keepAhead (M : am_M) (x1 : Int32) (x2 : Int32) (x3 : Int32) : Option (am_M) :=
  (l_X0_keepAhead_3 x1 x3 1000 x2 M).bind (fun z9 => some z9)
set_option maxHeartbeats 4000000 in
theorem w_X0_keepAhead {K : am_K} {d : Nat} {post : Option am_V → am_M → Prop} {M : am_M} {x1 : Int32} {x2 : Int32} {x3 : Int32} {y : am_M} (h : f_X0_keepAhead M x1 x2 x3 = some y) (hp : post none y) : am_W K (d + 2) m_X0_keepAhead 0 [(0, .inr (.inr (0, 0, 0))), (1, .inl x1), (2, .inl x2), (3, .inl x3)] [] M post := by
  unfold f_X0_keepAhead at h
  refine am_iload_n dX0_keepAhead_0 rfl ?_
  refine am_istore (ls' := [(0, .inr (.inr (0, 0, 0))), (1, .inl x1), (2, .inl x2), (3, .inl x3), (4, .inl x2)]) dX0_keepAhead_1 (Nat.le_of_ble_eq_true rfl) rfl ?_
  obtain ⟨z9, h10, h⟩ := am_bnd h
  have KK11 : am_W K (d + 2) m_X0_keepAhead 40 [] [] z9 post := by
    obtain rfl := Option.some.inj h
    exact am_return dX0_keepAhead_40 rfl hp
  exact am_drop [0, 1, 3, 4] rfl (wl_X0_keepAhead_3 _ _ _ _ h10 KK11)
theorem c_X0_keepAhead {K : am_K} {d : Nat} {M : am_M} {x1 : Int32} {x2 : Int32} {x3 : Int32} {y : am_M} (h : f_X0_keepAhead M x1 x2 x3 = some y) : am_Met K (d + 2) m_X0_keepAhead [.inr (.inr (0, 0, 0)), .inl x1, .inl x2, .inl x3] M (fun q N => q = none ∧ N = y) :=
  am_Met_of cb_X0_keepAhead (Nat.le_of_ble_eq_true rfl) (w_X0_keepAhead h ⟨rfl, rfl⟩)
def f_X0_levelBits (M : am_M) (x0 : Int32) : Option (Int32) :=
  (if (x0 - x0 / (2 : Int32) * (2 : Int32)) = 0 then (f_X0_bits M (x0 / (2 : Int32)) (x0 / (2 : Int32))).bind (fun r2 => some r2) else some (0 : Int32))
set_option maxHeartbeats 4000000 in
theorem w_X0_levelBits {K : am_K} {d : Nat} {post : Option am_V → am_M → Prop} {M : am_M} {x0 : Int32} {y : Int32} (h : f_X0_levelBits M x0 = some y) (hp : post (some (.inl y)) M) : am_W K (d + 1) m_X0_levelBits 0 [(0, .inl x0)] [] M post := by
  unfold f_X0_levelBits at h
  refine am_iload_n dX0_levelBits_0 rfl ?_
  refine am_iconst dX0_levelBits_1 ic_2 ?_
  refine am_irem dX0_levelBits_2 (by decide) ?_
  refine am_if_ne 18 dX0_levelBits_3 rfl (fun b3 => ?_) (fun b3 => ?_)
  · replace h := am_ifF b3 h
    refine am_iconst dX0_levelBits_18 ic_0 ?_
    obtain rfl := Option.some.inj h
    exact am_ireturn dX0_levelBits_19 rfl rfl hp
  · replace h := am_ifT b3 h
    refine am_iload_n dX0_levelBits_6 rfl ?_
    refine am_iconst dX0_levelBits_7 ic_2 ?_
    refine am_idiv dX0_levelBits_8 (by decide) ?_
    refine am_iload_n dX0_levelBits_9 rfl ?_
    refine am_iconst dX0_levelBits_10 ic_2 ?_
    refine am_idiv dX0_levelBits_11 (by decide) ?_
    obtain ⟨r2, c1, h⟩ := am_bnd h
    refine am_callSi (as := [.inl (x0 / (2 : Int32)), .inl (x0 / (2 : Int32))]) dX0_levelBits_12 cs_RX0_101 cb_X0_bits rfl rfl (Nat.le_of_ble_eq_true rfl) (c_X0_bits c1) ?_
    refine am_goto 19 dX0_levelBits_15 rfl ?_
    obtain rfl := Option.some.inj h
    exact am_ireturn dX0_levelBits_19 rfl rfl hp
theorem c_X0_levelBits {K : am_K} {d : Nat} {M : am_M} {x0 : Int32} {y : Int32} (h : f_X0_levelBits M x0 = some y) : am_Met K (d + 1) m_X0_levelBits [.inl x0] M (fun q N => q = some (.inl y) ∧ N = M) :=
  am_Met_of cb_X0_levelBits (Nat.le_of_ble_eq_true rfl) (w_X0_levelBits h ⟨rfl, rfl⟩)
def f_X0_keepLevel (M : am_M) (x1 : Int32) : Option (am_M) :=
  (if (M.1 0 0 0 0) < x1 then some M else if am_inb x1 25 = true then (f_X0_levelBits M x1).bind (fun r3 => if am_inb x1 25 = true then am_let (am_si M 103 0 0 x1.toNatClampNeg ((M.1 103 0 0 x1.toNatClampNeg) &&& r3)) (fun M5 => some M5) else none) else none)
set_option maxHeartbeats 4000000 in
theorem w_X0_keepLevel {K : am_K} {d : Nat} {post : Option am_V → am_M → Prop} {M : am_M} {x1 : Int32} {y : am_M} (h : f_X0_keepLevel M x1 = some y) (hp : post none y) : am_W K (d + 2) m_X0_keepLevel 0 [(0, .inr (.inr (0, 0, 0))), (1, .inl x1)] [] M post := by
  unfold f_X0_keepLevel at h
  refine am_iload_n dX0_keepLevel_0 rfl ?_
  refine am_aload_n dX0_keepLevel_1 rfl ?_
  refine am_getI dX0_keepLevel_2 fl_RX0_88 sh_0 rfl hk_0 ?_
  refine am_icmp_gt 21 dX0_keepLevel_5 rfl (fun b6 => ?_) (fun b6 => ?_)
  · replace h := am_ifT b6 h
    obtain rfl := Option.some.inj h
    exact am_return dX0_keepLevel_21 rfl hp
  · replace h := am_ifF b6 h
    refine am_aload_n dX0_keepLevel_8 rfl ?_
    refine am_getR (o' := 0) dX0_keepLevel_9 fl_RX0_15 sh_0 rfl rfl hk_0 ?_
    refine am_iload_n dX0_keepLevel_12 rfl ?_
    refine am_dup2 dX0_keepLevel_13 rfl rfl ?_
    obtain ⟨g1, h⟩ := am_grd h
    refine am_iaload dX0_keepLevel_14 sh_103 hk_103 (am_inbE g1) ?_
    refine am_iload_n dX0_keepLevel_15 rfl ?_
    obtain ⟨r3, c2, h⟩ := am_bnd h
    refine am_callSi (as := [.inl x1]) dX0_keepLevel_16 cs_RX0_120 cb_X0_levelBits rfl rfl (Nat.le_of_ble_eq_true rfl) (c_X0_levelBits c2) ?_
    refine am_iand dX0_keepLevel_19 ?_
    obtain ⟨g4, h⟩ := am_grd h
    obtain ⟨M5, eM5, h⟩ := am_letE h
    refine am_iastore dX0_keepLevel_20 sh_103 hk_103 (am_inbE g4) ?_
    refine am_mem eM5 ?_
    obtain rfl := Option.some.inj h
    exact am_return dX0_keepLevel_21 rfl hp
theorem c_X0_keepLevel {K : am_K} {d : Nat} {M : am_M} {x1 : Int32} {y : am_M} (h : f_X0_keepLevel M x1 = some y) : am_Met K (d + 2) m_X0_keepLevel [.inr (.inr (0, 0, 0)), .inl x1] M (fun q N => q = none ∧ N = y) :=
  am_Met_of cb_X0_keepLevel (Nat.le_of_ble_eq_true rfl) (w_X0_keepLevel h ⟨rfl, rfl⟩)
def l_X0_keepNotBehind_2 (a2 : Int32) : Nat → Int32 → am_M → Option (am_M)
  | 0, _, _ => none
  | n + 1, a3, M => (if a2 < a3 then some M else (if (M.1 0 0 0 0) < a3 then some M else if am_inb a3 25 = true then (f_X0_bits M ((a3 + (1 : Int32)) / (2 : Int32)) (24 : Int32)).bind (fun r3 => if am_inb a3 25 = true then am_let (am_si M 103 0 0 a3.toNatClampNeg ((M.1 103 0 0 a3.toNatClampNeg) &&& r3)) (fun M5 => am_let (a3 + (1 : Int32)) (fun v6 => l_X0_keepNotBehind_2 a2 n v6 M5)) else none) else none))
set_option maxHeartbeats 4000000 in
theorem wl_X0_keepNotBehind_2 {K : am_K} {d : Nat} {post : Option am_V → am_M → Prop} {a2 : Int32} : ∀ (n : Nat) (a3 : Int32) (M : am_M) (x : am_M), l_X0_keepNotBehind_2 a2 n a3 M = some x → am_W K (d + 1) m_X0_keepNotBehind 40 [] [] x post → am_W K (d + 1) m_X0_keepNotBehind 2 [(0, .inr (.inr (0, 0, 0))), (2, .inl a2), (3, .inl a3)] [] M post := by
  intro n
  induction n with
  | zero => intro a3 M x h KX; cases h
  | succ n ih =>
    intro a3 M x h KX
    rw [l_X0_keepNotBehind_2] at h
    refine am_iload_n dX0_keepNotBehind_2 rfl ?_
    refine am_iload_n dX0_keepNotBehind_3 rfl ?_
    refine am_icmp_gt 40 dX0_keepNotBehind_4 rfl (fun b8 => ?_) (fun b8 => ?_)
    · replace h := am_ifT b8 h
      obtain rfl := Option.some.inj h
      exact am_drop [] rfl KX
    · replace h := am_ifF b8 h
      refine am_iload_n dX0_keepNotBehind_7 rfl ?_
      refine am_aload_n dX0_keepNotBehind_8 rfl ?_
      refine am_getI dX0_keepNotBehind_9 fl_RX0_88 sh_0 rfl hk_0 ?_
      refine am_icmp_gt 40 dX0_keepNotBehind_12 rfl (fun b7 => ?_) (fun b7 => ?_)
      · replace h := am_ifT b7 h
        obtain rfl := Option.some.inj h
        exact am_drop [] rfl KX
      · replace h := am_ifF b7 h
        refine am_aload_n dX0_keepNotBehind_15 rfl ?_
        refine am_getR (o' := 0) dX0_keepNotBehind_16 fl_RX0_15 sh_0 rfl rfl hk_0 ?_
        refine am_iload_n dX0_keepNotBehind_19 rfl ?_
        refine am_dup2 dX0_keepNotBehind_20 rfl rfl ?_
        obtain ⟨g1, h⟩ := am_grd h
        refine am_iaload dX0_keepNotBehind_21 sh_103 hk_103 (am_inbE g1) ?_
        refine am_iload_n dX0_keepNotBehind_22 rfl ?_
        refine am_iconst dX0_keepNotBehind_23 ic_1 ?_
        refine am_iadd dX0_keepNotBehind_24 ?_
        refine am_iconst dX0_keepNotBehind_25 ic_2 ?_
        refine am_idiv dX0_keepNotBehind_26 (by decide) ?_
        refine am_bipush dX0_keepNotBehind_27 bp_24 ?_
        obtain ⟨r3, c2, h⟩ := am_bnd h
        refine am_callSi (as := [.inl ((a3 + (1 : Int32)) / (2 : Int32)), .inl (24 : Int32)]) dX0_keepNotBehind_29 cs_RX0_101 cb_X0_bits rfl rfl (Nat.le_of_ble_eq_true rfl) (c_X0_bits c2) ?_
        refine am_iand dX0_keepNotBehind_32 ?_
        obtain ⟨g4, h⟩ := am_grd h
        obtain ⟨M5, eM5, h⟩ := am_letE h
        refine am_iastore dX0_keepNotBehind_33 sh_103 hk_103 (am_inbE g4) ?_
        refine am_mem eM5 ?_
        obtain ⟨v6, ev6, h⟩ := am_letE h
        refine am_iinc (ls' := [(0, .inr (.inr (0, 0, 0))), (2, .inl a2), (3, .inl v6)]) dX0_keepNotBehind_34 rfl ((congrArg (fun z => a3 + z) ic_1).trans ev6.symm) (Nat.le_of_ble_eq_true rfl) rfl ?_
        refine am_goto 2 dX0_keepNotBehind_37 rfl ?_
        exact am_drop [0, 2, 3] rfl (ih _ _ _ h KX)
def f_X0_keepNotBehind (M : am_M) (x1 : Int32) (x2 : Int32) : Option (am_M) :=
  (l_X0_keepNotBehind_2 x2 1000 x1 M).bind (fun z9 => some z9)
set_option maxHeartbeats 4000000 in
theorem w_X0_keepNotBehind {K : am_K} {d : Nat} {post : Option am_V → am_M → Prop} {M : am_M} {x1 : Int32} {x2 : Int32} {y : am_M} (h : f_X0_keepNotBehind M x1 x2 = some y) (hp : post none y) : am_W K (d + 1) m_X0_keepNotBehind 0 [(0, .inr (.inr (0, 0, 0))), (1, .inl x1), (2, .inl x2)] [] M post := by
  unfold f_X0_keepNotBehind at h
  refine am_iload_n dX0_keepNotBehind_0 rfl ?_
  refine am_istore_n (ls' := [(0, .inr (.inr (0, 0, 0))), (1, .inl x1), (2, .inl x2), (3, .inl x1)]) dX0_keepNotBehind_1 (Nat.le_of_ble_eq_true rfl) rfl ?_
  obtain ⟨z9, h10, h⟩ := am_bnd h
  have KK11 : am_W K (d + 1) m_X0_keepNotBehind 40 [] [] z9 post := by
    obtain rfl := Option.some.inj h
    exact am_return dX0_keepNotBehind_40 rfl hp
  exact am_drop [0, 2, 3] rfl (wl_X0_keepNotBehind_2 _ _ _ _ h10 KK11)
theorem c_X0_keepNotBehind {K : am_K} {d : Nat} {M : am_M} {x1 : Int32} {x2 : Int32} {y : am_M} (h : f_X0_keepNotBehind M x1 x2 = some y) : am_Met K (d + 1) m_X0_keepNotBehind [.inr (.inr (0, 0, 0)), .inl x1, .inl x2] M (fun q N => q = none ∧ N = y) :=
  am_Met_of cb_X0_keepNotBehind (Nat.le_of_ble_eq_true rfl) (w_X0_keepNotBehind h ⟨rfl, rfl⟩)
def f_X0_keepFact (M : am_M) (x1 : Int32) (x2 : Int32) (x3 : Int32) : Option (am_M) :=
  (if x1 = (0 : Int32) then (f_X0_keepAt M x2 x3).bind (fun r3 => some r3) else if x1 = (1 : Int32) then (f_X0_keepAhead M (1 : Int32) x2 x3).bind (fun r6 => some r6) else if x1 = (2 : Int32) then (f_X0_keepLevel M x2).bind (fun r9 => some r9) else (f_X0_keepNotBehind M x2 x3).bind (fun r11 => some r11))
set_option maxHeartbeats 4000000 in
theorem w_X0_keepFact {K : am_K} {d : Nat} {post : Option am_V → am_M → Prop} {M : am_M} {x1 : Int32} {x2 : Int32} {x3 : Int32} {y : am_M} (h : f_X0_keepFact M x1 x2 x3 = some y) (hp : post none y) : am_W K (d + 3) m_X0_keepFact 0 [(0, .inr (.inr (0, 0, 0))), (1, .inl x1), (2, .inl x2), (3, .inl x3)] [] M post := by
  unfold f_X0_keepFact at h
  refine am_iload_n dX0_keepFact_0 rfl ?_
  by_cases b1 : x1 = (0 : Int32)
  · replace h := am_ifT b1 h
    skip
    refine am_swIn 28 dX0_keepFact_1 (by rw [b1]; decide) (by rw [b1]; decide) (by rw [b1]; rfl) rfl ?_
    refine am_aload_n dX0_keepFact_28 rfl ?_
    refine am_iload_n dX0_keepFact_29 rfl ?_
    refine am_iload_n dX0_keepFact_30 rfl ?_
    obtain ⟨r3, c2, h⟩ := am_bnd h
    refine am_callVv (as := [.inl x2, .inl x3]) dX0_keepFact_31 cv_RX0_69 cb_X0_keepAt sh_0 rfl hk_0 rfl rfl (Nat.le_of_ble_eq_true rfl) (c_X0_keepAt c2) ?_
    refine am_goto 61 dX0_keepFact_34 rfl ?_
    obtain rfl := Option.some.inj h
    exact am_return dX0_keepFact_61 rfl hp
  replace h := am_ifF b1 h
  by_cases b4 : x1 = (1 : Int32)
  · replace h := am_ifT b4 h
    skip
    refine am_swIn 37 dX0_keepFact_1 (by rw [b4]; decide) (by rw [b4]; decide) (by rw [b4]; rfl) rfl ?_
    refine am_aload_n dX0_keepFact_37 rfl ?_
    refine am_iconst dX0_keepFact_38 ic_1 ?_
    refine am_iload_n dX0_keepFact_39 rfl ?_
    refine am_iload_n dX0_keepFact_40 rfl ?_
    obtain ⟨r6, c5, h⟩ := am_bnd h
    refine am_callVv (as := [.inl (1 : Int32), .inl x2, .inl x3]) dX0_keepFact_41 cv_RX0_104 cb_X0_keepAhead sh_0 rfl hk_0 rfl rfl (Nat.le_of_ble_eq_true rfl) (c_X0_keepAhead c5) ?_
    refine am_goto 61 dX0_keepFact_44 rfl ?_
    obtain rfl := Option.some.inj h
    exact am_return dX0_keepFact_61 rfl hp
  replace h := am_ifF b4 h
  by_cases b7 : x1 = (2 : Int32)
  · replace h := am_ifT b7 h
    skip
    refine am_swIn 47 dX0_keepFact_1 (by rw [b7]; decide) (by rw [b7]; decide) (by rw [b7]; rfl) rfl ?_
    refine am_aload_n dX0_keepFact_47 rfl ?_
    refine am_iload_n dX0_keepFact_48 rfl ?_
    obtain ⟨r9, c8, h⟩ := am_bnd h
    refine am_callVv (as := [.inl x2]) dX0_keepFact_49 cv_RX0_107 cb_X0_keepLevel sh_0 rfl hk_0 rfl rfl (Nat.le_of_ble_eq_true rfl) (c_X0_keepLevel c8) ?_
    refine am_goto 61 dX0_keepFact_52 rfl ?_
    obtain rfl := Option.some.inj h
    exact am_return dX0_keepFact_61 rfl hp
  replace h := am_ifF b7 h
  have nb1 : ¬ (x1).toInt = 0 := am_neI b1
  have nb4 : ¬ (x1).toInt = 1 := am_neI b4
  have nb7 : ¬ (x1).toInt = 2 := am_neI b7
  refine am_swOut 55 dX0_keepFact_1 (by omega) rfl ?_
  refine am_aload_n dX0_keepFact_55 rfl ?_
  refine am_iload_n dX0_keepFact_56 rfl ?_
  refine am_iload_n dX0_keepFact_57 rfl ?_
  obtain ⟨r11, c10, h⟩ := am_bnd h
  refine am_callVv (as := [.inl x2, .inl x3]) dX0_keepFact_58 cv_RX0_111 cb_X0_keepNotBehind sh_0 rfl hk_0 rfl rfl (Nat.le_of_ble_eq_true rfl) (c_X0_keepNotBehind c10) ?_
  obtain rfl := Option.some.inj h
  exact am_return dX0_keepFact_61 rfl hp
theorem c_X0_keepFact {K : am_K} {d : Nat} {M : am_M} {x1 : Int32} {x2 : Int32} {x3 : Int32} {y : am_M} (h : f_X0_keepFact M x1 x2 x3 = some y) : am_Met K (d + 3) m_X0_keepFact [.inr (.inr (0, 0, 0)), .inl x1, .inl x2, .inl x3] M (fun q N => q = none ∧ N = y) :=
  am_Met_of cb_X0_keepFact (Nat.le_of_ble_eq_true rfl) (w_X0_keepFact h ⟨rfl, rfl⟩)
def l_X0_layFitting_13 (o1a : Nat) : Nat → Int32 → Int32 → am_M → Option (am_M)
  | 0, _, _, _ => none
  | n + 1, a2, a3, M => (if (M.1 1 o1a 0 6) ≤ a3 then some M else if am_inb a3 24 = true then am_let (a2 + (M.1 208 o1a 0 a3.toNatClampNeg)) (fun v4 => (f_X0_keepAt M (a3 + (1 : Int32)) v4).bind (fun r6 => am_let (a3 + (1 : Int32)) (fun v7 => l_X0_layFitting_13 o1a n v4 v7 r6))) else none)
set_option maxHeartbeats 4000000 in
theorem wl_X0_layFitting_13 {K : am_K} {d : Nat} {post : Option am_V → am_M → Prop} {o1a : Nat} : ∀ (n : Nat) (a2 : Int32) (a3 : Int32) (M : am_M) (x : am_M), l_X0_layFitting_13 o1a n a2 a3 M = some x → am_W K (d + 4) m_X0_layFitting 44 [(0, .inr (.inr (0, 0, 0))), (1, .inr (.inr (1, o1a, 0)))] [] x post → am_W K (d + 4) m_X0_layFitting 13 [(0, .inr (.inr (0, 0, 0))), (1, .inr (.inr (1, o1a, 0))), (2, .inl a2), (3, .inl a3)] [] M post := by
  intro n
  induction n with
  | zero => intro a2 a3 M x h KX; cases h
  | succ n ih =>
    intro a2 a3 M x h KX
    rw [l_X0_layFitting_13] at h
    refine am_iload_n dX0_layFitting_13 rfl ?_
    refine am_aload_n dX0_layFitting_14 rfl ?_
    refine am_getI dX0_layFitting_15 fl_RX0_63 sh_1 rfl hk_1 ?_
    refine am_icmp_ge 44 dX0_layFitting_18 rfl (fun b8 => ?_) (fun b8 => ?_)
    · replace h := am_ifT b8 h
      obtain rfl := Option.some.inj h
      exact am_drop [0, 1] rfl KX
    · replace h := am_ifF b8 h
      refine am_iload_n dX0_layFitting_21 rfl ?_
      refine am_aload_n dX0_layFitting_22 rfl ?_
      refine am_getR (o' := o1a) dX0_layFitting_23 fl_RX0_66 sh_1 rfl rfl hk_1 ?_
      refine am_iload_n dX0_layFitting_26 rfl ?_
      obtain ⟨g3, h⟩ := am_grd h
      refine am_iaload dX0_layFitting_27 sh_208 hk_208 (am_inbE g3) ?_
      refine am_iadd dX0_layFitting_28 ?_
      obtain ⟨v4, ev4, h⟩ := am_letE h
      refine am_topI ev4 ?_
      refine am_istore_n (ls' := [(0, .inr (.inr (0, 0, 0))), (1, .inr (.inr (1, o1a, 0))), (2, .inl v4), (3, .inl a3)]) dX0_layFitting_29 (Nat.le_of_ble_eq_true rfl) rfl ?_
      refine am_aload_n dX0_layFitting_30 rfl ?_
      refine am_iload_n dX0_layFitting_31 rfl ?_
      refine am_iconst dX0_layFitting_32 ic_1 ?_
      refine am_iadd dX0_layFitting_33 ?_
      refine am_iload_n dX0_layFitting_34 rfl ?_
      obtain ⟨r6, c5, h⟩ := am_bnd h
      refine am_callVv (as := [.inl (a3 + (1 : Int32)), .inl v4]) dX0_layFitting_35 cv_RX0_69 cb_X0_keepAt sh_0 rfl hk_0 rfl rfl (Nat.le_of_ble_eq_true rfl) (c_X0_keepAt c5) ?_
      obtain ⟨v7, ev7, h⟩ := am_letE h
      refine am_iinc (ls' := [(0, .inr (.inr (0, 0, 0))), (1, .inr (.inr (1, o1a, 0))), (2, .inl v4), (3, .inl v7)]) dX0_layFitting_38 rfl ((congrArg (fun z => a3 + z) ic_1).trans ev7.symm) (Nat.le_of_ble_eq_true rfl) rfl ?_
      refine am_goto 13 dX0_layFitting_41 rfl ?_
      exact am_drop [0, 1, 2, 3] rfl (ih _ _ _ _ h KX)
def l_X0_layFitting_46 (o1a : Nat) : Nat → Int32 → am_M → Option (am_M)
  | 0, _, _ => none
  | n + 1, a3, M => (if (M.1 1 o1a 0 9) ≤ a3 then some M else if am_inb a3 4 = true then if am_inb a3 4 = true then if am_inb a3 4 = true then (f_X0_keepFact M (M.1 210 o1a 0 a3.toNatClampNeg) (M.1 211 o1a 0 a3.toNatClampNeg) (M.1 212 o1a 0 a3.toNatClampNeg)).bind (fun r16 => am_let (a3 + (1 : Int32)) (fun v17 => l_X0_layFitting_46 o1a n v17 r16)) else none else none else none)
set_option maxHeartbeats 4000000 in
theorem wl_X0_layFitting_46 {K : am_K} {d : Nat} {post : Option am_V → am_M → Prop} {o1a : Nat} : ∀ (n : Nat) (a3 : Int32) (M : am_M) (x : am_M), l_X0_layFitting_46 o1a n a3 M = some x → am_W K (d + 4) m_X0_layFitting 82 [] [] x post → am_W K (d + 4) m_X0_layFitting 46 [(0, .inr (.inr (0, 0, 0))), (1, .inr (.inr (1, o1a, 0))), (3, .inl a3)] [] M post := by
  intro n
  induction n with
  | zero => intro a3 M x h KX; cases h
  | succ n ih =>
    intro a3 M x h KX
    rw [l_X0_layFitting_46] at h
    refine am_iload_n dX0_layFitting_46 rfl ?_
    refine am_aload_n dX0_layFitting_47 rfl ?_
    refine am_getI dX0_layFitting_48 fl_RX0_72 sh_1 rfl hk_1 ?_
    refine am_icmp_ge 82 dX0_layFitting_51 rfl (fun b18 => ?_) (fun b18 => ?_)
    · replace h := am_ifT b18 h
      obtain rfl := Option.some.inj h
      exact am_drop [] rfl KX
    · replace h := am_ifF b18 h
      refine am_aload_n dX0_layFitting_54 rfl ?_
      refine am_aload_n dX0_layFitting_55 rfl ?_
      refine am_getR (o' := o1a) dX0_layFitting_56 fl_RX0_75 sh_1 rfl rfl hk_1 ?_
      refine am_iload_n dX0_layFitting_59 rfl ?_
      obtain ⟨g12, h⟩ := am_grd h
      refine am_iaload dX0_layFitting_60 sh_210 hk_210 (am_inbE g12) ?_
      refine am_aload_n dX0_layFitting_61 rfl ?_
      refine am_getR (o' := o1a) dX0_layFitting_62 fl_RX0_78 sh_1 rfl rfl hk_1 ?_
      refine am_iload_n dX0_layFitting_65 rfl ?_
      obtain ⟨g13, h⟩ := am_grd h
      refine am_iaload dX0_layFitting_66 sh_211 hk_211 (am_inbE g13) ?_
      refine am_aload_n dX0_layFitting_67 rfl ?_
      refine am_getR (o' := o1a) dX0_layFitting_68 fl_RX0_81 sh_1 rfl rfl hk_1 ?_
      refine am_iload_n dX0_layFitting_71 rfl ?_
      obtain ⟨g14, h⟩ := am_grd h
      refine am_iaload dX0_layFitting_72 sh_212 hk_212 (am_inbE g14) ?_
      obtain ⟨r16, c15, h⟩ := am_bnd h
      refine am_callVv (as := [.inl (M.1 210 o1a 0 a3.toNatClampNeg), .inl (M.1 211 o1a 0 a3.toNatClampNeg), .inl (M.1 212 o1a 0 a3.toNatClampNeg)]) dX0_layFitting_73 cv_RX0_84 cb_X0_keepFact sh_0 rfl hk_0 rfl rfl (Nat.le_of_ble_eq_true rfl) (c_X0_keepFact c15) ?_
      obtain ⟨v17, ev17, h⟩ := am_letE h
      refine am_iinc (ls' := [(0, .inr (.inr (0, 0, 0))), (1, .inr (.inr (1, o1a, 0))), (3, .inl v17)]) dX0_layFitting_76 rfl ((congrArg (fun z => a3 + z) ic_1).trans ev17.symm) (Nat.le_of_ble_eq_true rfl) rfl ?_
      refine am_goto 46 dX0_layFitting_79 rfl ?_
      exact am_drop [0, 1, 3] rfl (ih _ _ _ h KX)
def f_X0_layFitting (M : am_M) (o1 : Nat) : Option (am_M) :=
  (f_X0_layHeaps M o1 205 o1 0 4).bind (fun r2 => (l_X0_layFitting_13 o1 1000 (0 : Int32) (0 : Int32) r2).bind (fun z9 => (l_X0_layFitting_46 o1 1000 (0 : Int32) z9).bind (fun z19 => some z19)))
set_option maxHeartbeats 4000000 in
theorem w_X0_layFitting {K : am_K} {d : Nat} {post : Option am_V → am_M → Prop} {M : am_M} {o1 : Nat} {y : am_M} (h : f_X0_layFitting M o1 = some y) (hp : post none y) : am_W K (d + 4) m_X0_layFitting 0 [(0, .inr (.inr (0, 0, 0))), (1, .inr (.inr (1, o1, 0)))] [] M post := by
  unfold f_X0_layFitting at h
  refine am_aload_n dX0_layFitting_0 rfl ?_
  refine am_aload_n dX0_layFitting_1 rfl ?_
  refine am_aload_n dX0_layFitting_2 rfl ?_
  refine am_getR (o' := o1) dX0_layFitting_3 fl_RX0_56 sh_1 rfl rfl hk_1 ?_
  obtain ⟨r2, c1, h⟩ := am_bnd h
  refine am_callVv (as := [.inr (.inr (1, o1, 0)), .inr (.inr (205, o1, 0))]) dX0_layFitting_6 cv_RX0_59 cb_X0_layHeaps sh_0 rfl hk_0 rfl rfl (Nat.le_of_ble_eq_true rfl) (c_X0_layHeaps sh_205 hk_205 c1) ?_
  refine am_iconst dX0_layFitting_9 ic_0 ?_
  refine am_istore_n (ls' := [(0, .inr (.inr (0, 0, 0))), (1, .inr (.inr (1, o1, 0))), (2, .inl (0 : Int32))]) dX0_layFitting_10 (Nat.le_of_ble_eq_true rfl) rfl ?_
  refine am_iconst dX0_layFitting_11 ic_0 ?_
  refine am_istore_n (ls' := [(0, .inr (.inr (0, 0, 0))), (1, .inr (.inr (1, o1, 0))), (2, .inl (0 : Int32)), (3, .inl (0 : Int32))]) dX0_layFitting_12 (Nat.le_of_ble_eq_true rfl) rfl ?_
  obtain ⟨z9, h10, h⟩ := am_bnd h
  have KK11 : am_W K (d + 4) m_X0_layFitting 44 [(0, .inr (.inr (0, 0, 0))), (1, .inr (.inr (1, o1, 0)))] [] z9 post := by
    refine am_iconst dX0_layFitting_44 ic_0 ?_
    refine am_istore_n (ls' := [(0, .inr (.inr (0, 0, 0))), (1, .inr (.inr (1, o1, 0))), (3, .inl (0 : Int32))]) dX0_layFitting_45 (Nat.le_of_ble_eq_true rfl) rfl ?_
    obtain ⟨z19, h20, h⟩ := am_bnd h
    have KK21 : am_W K (d + 4) m_X0_layFitting 82 [] [] z19 post := by
      obtain rfl := Option.some.inj h
      exact am_return dX0_layFitting_82 rfl hp
    exact am_drop [0, 1, 3] rfl (wl_X0_layFitting_46 _ _ _ _ h20 KK21)
  exact am_drop [0, 1, 2, 3] rfl (wl_X0_layFitting_13 _ _ _ _ _ h10 KK11)
theorem c_X0_layFitting {K : am_K} {d : Nat} {M : am_M} {o1 : Nat} {y : am_M} (h : f_X0_layFitting M o1 = some y) : am_Met K (d + 4) m_X0_layFitting [.inr (.inr (0, 0, 0)), .inr (.inr (1, o1, 0))] M (fun q N => q = none ∧ N = y) :=
  am_Met_of cb_X0_layFitting (Nat.le_of_ble_eq_true rfl) (w_X0_layFitting h ⟨rfl, rfl⟩)
def l_X0_closeLevel_2 (a2 : Int32) : Nat → Int32 → am_M → Option (am_M)
  | 0, _, _ => none
  | n + 1, a3, M => (if a2 < a3 then some M else (if (M.1 0 0 0 0) < a3 then some M else if am_inb a3 25 = true then (f_X0_levelBits M a3).bind (fun r3 => if am_inb a3 25 = true then am_let (am_si M 103 0 0 a3.toNatClampNeg ((M.1 103 0 0 a3.toNatClampNeg) &&& (r3 ^^^ (-1 : Int32)))) (fun M5 => am_let (a3 + (1 : Int32)) (fun v6 => l_X0_closeLevel_2 a2 n v6 M5)) else none) else none))
set_option maxHeartbeats 4000000 in
theorem wl_X0_closeLevel_2 {K : am_K} {d : Nat} {post : Option am_V → am_M → Prop} {a2 : Int32} : ∀ (n : Nat) (a3 : Int32) (M : am_M) (x : am_M), l_X0_closeLevel_2 a2 n a3 M = some x → am_W K (d + 2) m_X0_closeLevel 36 [] [] x post → am_W K (d + 2) m_X0_closeLevel 2 [(0, .inr (.inr (0, 0, 0))), (2, .inl a2), (3, .inl a3)] [] M post := by
  intro n
  induction n with
  | zero => intro a3 M x h KX; cases h
  | succ n ih =>
    intro a3 M x h KX
    rw [l_X0_closeLevel_2] at h
    refine am_iload_n dX0_closeLevel_2 rfl ?_
    refine am_iload_n dX0_closeLevel_3 rfl ?_
    refine am_icmp_gt 36 dX0_closeLevel_4 rfl (fun b8 => ?_) (fun b8 => ?_)
    · replace h := am_ifT b8 h
      obtain rfl := Option.some.inj h
      exact am_drop [] rfl KX
    · replace h := am_ifF b8 h
      refine am_iload_n dX0_closeLevel_7 rfl ?_
      refine am_aload_n dX0_closeLevel_8 rfl ?_
      refine am_getI dX0_closeLevel_9 fl_RX0_88 sh_0 rfl hk_0 ?_
      refine am_icmp_gt 36 dX0_closeLevel_12 rfl (fun b7 => ?_) (fun b7 => ?_)
      · replace h := am_ifT b7 h
        obtain rfl := Option.some.inj h
        exact am_drop [] rfl KX
      · replace h := am_ifF b7 h
        refine am_aload_n dX0_closeLevel_15 rfl ?_
        refine am_getR (o' := 0) dX0_closeLevel_16 fl_RX0_15 sh_0 rfl rfl hk_0 ?_
        refine am_iload_n dX0_closeLevel_19 rfl ?_
        refine am_dup2 dX0_closeLevel_20 rfl rfl ?_
        obtain ⟨g1, h⟩ := am_grd h
        refine am_iaload dX0_closeLevel_21 sh_103 hk_103 (am_inbE g1) ?_
        refine am_iload_n dX0_closeLevel_22 rfl ?_
        obtain ⟨r3, c2, h⟩ := am_bnd h
        refine am_callSi (as := [.inl a3]) dX0_closeLevel_23 cs_RX0_120 cb_X0_levelBits rfl rfl (Nat.le_of_ble_eq_true rfl) (c_X0_levelBits c2) ?_
        refine am_iconst dX0_closeLevel_26 ic_m1 ?_
        refine am_ixor dX0_closeLevel_27 ?_
        refine am_iand dX0_closeLevel_28 ?_
        obtain ⟨g4, h⟩ := am_grd h
        obtain ⟨M5, eM5, h⟩ := am_letE h
        refine am_iastore dX0_closeLevel_29 sh_103 hk_103 (am_inbE g4) ?_
        refine am_mem eM5 ?_
        obtain ⟨v6, ev6, h⟩ := am_letE h
        refine am_iinc (ls' := [(0, .inr (.inr (0, 0, 0))), (2, .inl a2), (3, .inl v6)]) dX0_closeLevel_30 rfl ((congrArg (fun z => a3 + z) ic_1).trans ev6.symm) (Nat.le_of_ble_eq_true rfl) rfl ?_
        refine am_goto 2 dX0_closeLevel_33 rfl ?_
        exact am_drop [0, 2, 3] rfl (ih _ _ _ h KX)
def f_X0_closeLevel (M : am_M) (x1 : Int32) (x2 : Int32) : Option (am_M) :=
  (l_X0_closeLevel_2 x2 1000 x1 M).bind (fun z9 => some z9)
set_option maxHeartbeats 4000000 in
theorem w_X0_closeLevel {K : am_K} {d : Nat} {post : Option am_V → am_M → Prop} {M : am_M} {x1 : Int32} {x2 : Int32} {y : am_M} (h : f_X0_closeLevel M x1 x2 = some y) (hp : post none y) : am_W K (d + 2) m_X0_closeLevel 0 [(0, .inr (.inr (0, 0, 0))), (1, .inl x1), (2, .inl x2)] [] M post := by
  unfold f_X0_closeLevel at h
  refine am_iload_n dX0_closeLevel_0 rfl ?_
  refine am_istore_n (ls' := [(0, .inr (.inr (0, 0, 0))), (1, .inl x1), (2, .inl x2), (3, .inl x1)]) dX0_closeLevel_1 (Nat.le_of_ble_eq_true rfl) rfl ?_
  obtain ⟨z9, h10, h⟩ := am_bnd h
  have KK11 : am_W K (d + 2) m_X0_closeLevel 36 [] [] z9 post := by
    obtain rfl := Option.some.inj h
    exact am_return dX0_closeLevel_36 rfl hp
  exact am_drop [0, 2, 3] rfl (wl_X0_closeLevel_2 _ _ _ _ h10 KK11)
theorem c_X0_closeLevel {K : am_K} {d : Nat} {M : am_M} {x1 : Int32} {x2 : Int32} {y : am_M} (h : f_X0_closeLevel M x1 x2 = some y) : am_Met K (d + 2) m_X0_closeLevel [.inr (.inr (0, 0, 0)), .inl x1, .inl x2] M (fun q N => q = none ∧ N = y) :=
  am_Met_of cb_X0_closeLevel (Nat.le_of_ble_eq_true rfl) (w_X0_closeLevel h ⟨rfl, rfl⟩)
def l_X0_closeAhead_2 (a1 : Int32) : Nat → Int32 → am_M → Option (am_M)
  | 0, _, _ => none
  | n + 1, a2, M => (if (M.1 0 0 0 0) < a2 then some M else if am_inb a2 25 = true then (f_X0_aheadBits M a1 a2).bind (fun r3 => if am_inb a2 25 = true then am_let (am_si M 103 0 0 a2.toNatClampNeg ((M.1 103 0 0 a2.toNatClampNeg) &&& (r3 ^^^ (-1 : Int32)))) (fun M5 => am_let (a2 + (1 : Int32)) (fun v6 => l_X0_closeAhead_2 a1 n v6 M5)) else none) else none)
set_option maxHeartbeats 4000000 in
theorem wl_X0_closeAhead_2 {K : am_K} {d : Nat} {post : Option am_V → am_M → Prop} {a1 : Int32} : ∀ (n : Nat) (a2 : Int32) (M : am_M) (x : am_M), l_X0_closeAhead_2 a1 n a2 M = some x → am_W K (d + 2) m_X0_closeAhead 32 [] [] x post → am_W K (d + 2) m_X0_closeAhead 2 [(0, .inr (.inr (0, 0, 0))), (1, .inl a1), (2, .inl a2)] [] M post := by
  intro n
  induction n with
  | zero => intro a2 M x h KX; cases h
  | succ n ih =>
    intro a2 M x h KX
    rw [l_X0_closeAhead_2] at h
    refine am_iload_n dX0_closeAhead_2 rfl ?_
    refine am_aload_n dX0_closeAhead_3 rfl ?_
    refine am_getI dX0_closeAhead_4 fl_RX0_88 sh_0 rfl hk_0 ?_
    refine am_icmp_gt 32 dX0_closeAhead_7 rfl (fun b7 => ?_) (fun b7 => ?_)
    · replace h := am_ifT b7 h
      obtain rfl := Option.some.inj h
      exact am_drop [] rfl KX
    · replace h := am_ifF b7 h
      refine am_aload_n dX0_closeAhead_10 rfl ?_
      refine am_getR (o' := 0) dX0_closeAhead_11 fl_RX0_15 sh_0 rfl rfl hk_0 ?_
      refine am_iload_n dX0_closeAhead_14 rfl ?_
      refine am_dup2 dX0_closeAhead_15 rfl rfl ?_
      obtain ⟨g1, h⟩ := am_grd h
      refine am_iaload dX0_closeAhead_16 sh_103 hk_103 (am_inbE g1) ?_
      refine am_iload_n dX0_closeAhead_17 rfl ?_
      refine am_iload_n dX0_closeAhead_18 rfl ?_
      obtain ⟨r3, c2, h⟩ := am_bnd h
      refine am_callSi (as := [.inl a1, .inl a2]) dX0_closeAhead_19 cs_RX0_114 cb_X0_aheadBits rfl rfl (Nat.le_of_ble_eq_true rfl) (c_X0_aheadBits c2) ?_
      refine am_iconst dX0_closeAhead_22 ic_m1 ?_
      refine am_ixor dX0_closeAhead_23 ?_
      refine am_iand dX0_closeAhead_24 ?_
      obtain ⟨g4, h⟩ := am_grd h
      obtain ⟨M5, eM5, h⟩ := am_letE h
      refine am_iastore dX0_closeAhead_25 sh_103 hk_103 (am_inbE g4) ?_
      refine am_mem eM5 ?_
      obtain ⟨v6, ev6, h⟩ := am_letE h
      refine am_iinc (ls' := [(0, .inr (.inr (0, 0, 0))), (1, .inl a1), (2, .inl v6)]) dX0_closeAhead_26 rfl ((congrArg (fun z => a2 + z) ic_1).trans ev6.symm) (Nat.le_of_ble_eq_true rfl) rfl ?_
      refine am_goto 2 dX0_closeAhead_29 rfl ?_
      exact am_drop [0, 1, 2] rfl (ih _ _ _ h KX)
def f_X0_closeAhead (M : am_M) (x1 : Int32) : Option (am_M) :=
  (l_X0_closeAhead_2 x1 1000 (1 : Int32) M).bind (fun z8 => some z8)
set_option maxHeartbeats 4000000 in
theorem w_X0_closeAhead {K : am_K} {d : Nat} {post : Option am_V → am_M → Prop} {M : am_M} {x1 : Int32} {y : am_M} (h : f_X0_closeAhead M x1 = some y) (hp : post none y) : am_W K (d + 2) m_X0_closeAhead 0 [(0, .inr (.inr (0, 0, 0))), (1, .inl x1)] [] M post := by
  unfold f_X0_closeAhead at h
  refine am_iconst dX0_closeAhead_0 ic_1 ?_
  refine am_istore_n (ls' := [(0, .inr (.inr (0, 0, 0))), (1, .inl x1), (2, .inl (1 : Int32))]) dX0_closeAhead_1 (Nat.le_of_ble_eq_true rfl) rfl ?_
  obtain ⟨z8, h9, h⟩ := am_bnd h
  have KK10 : am_W K (d + 2) m_X0_closeAhead 32 [] [] z8 post := by
    obtain rfl := Option.some.inj h
    exact am_return dX0_closeAhead_32 rfl hp
  exact am_drop [0, 1, 2] rfl (wl_X0_closeAhead_2 _ _ _ _ h9 KK10)
theorem c_X0_closeAhead {K : am_K} {d : Nat} {M : am_M} {x1 : Int32} {y : am_M} (h : f_X0_closeAhead M x1 = some y) : am_Met K (d + 2) m_X0_closeAhead [.inr (.inr (0, 0, 0)), .inl x1] M (fun q N => q = none ∧ N = y) :=
  am_Met_of cb_X0_closeAhead (Nat.le_of_ble_eq_true rfl) (w_X0_closeAhead h ⟨rfl, rfl⟩)
def l_X0_keepAheadByTwos_2 (a1 : Int32) : Nat → Int32 → am_M → Option (am_M)
  | 0, _, _ => none
  | n + 1, a2, M => (if (M.1 0 0 0 0) < a2 then some M else (f_X0_keepAhead M a1 a2 a2).bind (fun r2 => am_let (a2 + (2 : Int32)) (fun v3 => l_X0_keepAheadByTwos_2 a1 n v3 r2)))
set_option maxHeartbeats 4000000 in
theorem wl_X0_keepAheadByTwos_2 {K : am_K} {d : Nat} {post : Option am_V → am_M → Prop} {a1 : Int32} : ∀ (n : Nat) (a2 : Int32) (M : am_M) (x : am_M), l_X0_keepAheadByTwos_2 a1 n a2 M = some x → am_W K (d + 3) m_X0_keepAheadByTwos 23 [(0, .inr (.inr (0, 0, 0))), (1, .inl a1)] [] x post → am_W K (d + 3) m_X0_keepAheadByTwos 2 [(0, .inr (.inr (0, 0, 0))), (1, .inl a1), (2, .inl a2)] [] M post := by
  intro n
  induction n with
  | zero => intro a2 M x h KX; cases h
  | succ n ih =>
    intro a2 M x h KX
    rw [l_X0_keepAheadByTwos_2] at h
    refine am_iload_n dX0_keepAheadByTwos_2 rfl ?_
    refine am_aload_n dX0_keepAheadByTwos_3 rfl ?_
    refine am_getI dX0_keepAheadByTwos_4 fl_RX0_88 sh_0 rfl hk_0 ?_
    refine am_icmp_gt 23 dX0_keepAheadByTwos_7 rfl (fun b4 => ?_) (fun b4 => ?_)
    · replace h := am_ifT b4 h
      obtain rfl := Option.some.inj h
      exact am_drop [0, 1] rfl KX
    · replace h := am_ifF b4 h
      refine am_aload_n dX0_keepAheadByTwos_10 rfl ?_
      refine am_iload_n dX0_keepAheadByTwos_11 rfl ?_
      refine am_iload_n dX0_keepAheadByTwos_12 rfl ?_
      refine am_iload_n dX0_keepAheadByTwos_13 rfl ?_
      obtain ⟨r2, c1, h⟩ := am_bnd h
      refine am_callVv (as := [.inl a1, .inl a2, .inl a2]) dX0_keepAheadByTwos_14 cv_RX0_104 cb_X0_keepAhead sh_0 rfl hk_0 rfl rfl (Nat.le_of_ble_eq_true rfl) (c_X0_keepAhead c1) ?_
      obtain ⟨v3, ev3, h⟩ := am_letE h
      refine am_iinc (ls' := [(0, .inr (.inr (0, 0, 0))), (1, .inl a1), (2, .inl v3)]) dX0_keepAheadByTwos_17 rfl ((congrArg (fun z => a2 + z) ic_2).trans ev3.symm) (Nat.le_of_ble_eq_true rfl) rfl ?_
      refine am_goto 2 dX0_keepAheadByTwos_20 rfl ?_
      exact am_drop [0, 1, 2] rfl (ih _ _ _ h KX)
def f_X0_keepAheadByTwos (M : am_M) (x1 : Int32) : Option (am_M) :=
  (l_X0_keepAheadByTwos_2 x1 1000 (2 : Int32) M).bind (fun z5 => (f_X0_keepAhead z5 x1 (if (1 : Int32) < (z5.1 0 0 0 0) then (z5.1 0 0 0 0) else (1 : Int32)) (z5.1 0 0 0 0)).bind (fun r9 => some r9))
set_option maxHeartbeats 4000000 in
theorem w_X0_keepAheadByTwos {K : am_K} {d : Nat} {post : Option am_V → am_M → Prop} {M : am_M} {x1 : Int32} {y : am_M} (h : f_X0_keepAheadByTwos M x1 = some y) (hp : post none y) : am_W K (d + 3) m_X0_keepAheadByTwos 0 [(0, .inr (.inr (0, 0, 0))), (1, .inl x1)] [] M post := by
  unfold f_X0_keepAheadByTwos at h
  refine am_iconst dX0_keepAheadByTwos_0 ic_2 ?_
  refine am_istore_n (ls' := [(0, .inr (.inr (0, 0, 0))), (1, .inl x1), (2, .inl (2 : Int32))]) dX0_keepAheadByTwos_1 (Nat.le_of_ble_eq_true rfl) rfl ?_
  obtain ⟨z5, h6, h⟩ := am_bnd h
  have KK7 : am_W K (d + 3) m_X0_keepAheadByTwos 23 [(0, .inr (.inr (0, 0, 0))), (1, .inl x1)] [] z5 post := by
    refine am_aload_n dX0_keepAheadByTwos_23 rfl ?_
    refine am_iload_n dX0_keepAheadByTwos_24 rfl ?_
    refine am_iconst dX0_keepAheadByTwos_25 ic_1 ?_
    refine am_aload_n dX0_keepAheadByTwos_26 rfl ?_
    refine am_getI dX0_keepAheadByTwos_27 fl_RX0_88 sh_0 rfl hk_0 ?_
    refine am_mmax dX0_keepAheadByTwos_30 cm_RX0_92 (Nat.le_of_ble_eq_true rfl) ?_
    refine am_aload_n dX0_keepAheadByTwos_33 rfl ?_
    refine am_getI dX0_keepAheadByTwos_34 fl_RX0_88 sh_0 rfl hk_0 ?_
    obtain ⟨r9, c8, h⟩ := am_bnd h
    refine am_callVv (as := [.inl x1, .inl (if (1 : Int32) < (z5.1 0 0 0 0) then (z5.1 0 0 0 0) else (1 : Int32)), .inl (z5.1 0 0 0 0)]) dX0_keepAheadByTwos_37 cv_RX0_104 cb_X0_keepAhead sh_0 rfl hk_0 rfl rfl (Nat.le_of_ble_eq_true rfl) (c_X0_keepAhead c8) ?_
    obtain rfl := Option.some.inj h
    exact am_return dX0_keepAheadByTwos_40 rfl hp
  exact am_drop [0, 1, 2] rfl (wl_X0_keepAheadByTwos_2 _ _ _ _ h6 KK7)
theorem c_X0_keepAheadByTwos {K : am_K} {d : Nat} {M : am_M} {x1 : Int32} {y : am_M} (h : f_X0_keepAheadByTwos M x1 = some y) : am_Met K (d + 3) m_X0_keepAheadByTwos [.inr (.inr (0, 0, 0)), .inl x1] M (fun q N => q = none ∧ N = y) :=
  am_Met_of cb_X0_keepAheadByTwos (Nat.le_of_ble_eq_true rfl) (w_X0_keepAheadByTwos h ⟨rfl, rfl⟩)
def l_X0_keepAheadFromBehind_2 (a1 : Int32) : Nat → Int32 → am_M → Option (am_M)
  | 0, _, _ => none
  | n + 1, a2, M => (if (M.1 0 0 0 0) ≤ a2 then some M else if am_inb a2 25 = true then (f_X0_leastAhead M a1 ((M.1 0 0 0 0) - a2)).bind (fun r3 => (f_X0_bits M (0 : Int32) ((M.1 0 0 0 1) - r3)).bind (fun r5 => if am_inb a2 25 = true then am_let (am_si M 103 0 0 a2.toNatClampNeg ((M.1 103 0 0 a2.toNatClampNeg) &&& r5)) (fun M7 => am_let (a2 + (1 : Int32)) (fun v8 => l_X0_keepAheadFromBehind_2 a1 n v8 M7)) else none)) else none)
set_option maxHeartbeats 4000000 in
theorem wl_X0_keepAheadFromBehind_2 {K : am_K} {d : Nat} {post : Option am_V → am_M → Prop} {a1 : Int32} : ∀ (n : Nat) (a2 : Int32) (M : am_M) (x : am_M), l_X0_keepAheadFromBehind_2 a1 n a2 M = some x → am_W K (d + 1) m_X0_keepAheadFromBehind 44 [] [] x post → am_W K (d + 1) m_X0_keepAheadFromBehind 2 [(0, .inr (.inr (0, 0, 0))), (1, .inl a1), (2, .inl a2)] [] M post := by
  intro n
  induction n with
  | zero => intro a2 M x h KX; cases h
  | succ n ih =>
    intro a2 M x h KX
    rw [l_X0_keepAheadFromBehind_2] at h
    refine am_iload_n dX0_keepAheadFromBehind_2 rfl ?_
    refine am_aload_n dX0_keepAheadFromBehind_3 rfl ?_
    refine am_getI dX0_keepAheadFromBehind_4 fl_RX0_88 sh_0 rfl hk_0 ?_
    refine am_icmp_ge 44 dX0_keepAheadFromBehind_7 rfl (fun b9 => ?_) (fun b9 => ?_)
    · replace h := am_ifT b9 h
      obtain rfl := Option.some.inj h
      exact am_drop [] rfl KX
    · replace h := am_ifF b9 h
      refine am_aload_n dX0_keepAheadFromBehind_10 rfl ?_
      refine am_getR (o' := 0) dX0_keepAheadFromBehind_11 fl_RX0_15 sh_0 rfl rfl hk_0 ?_
      refine am_iload_n dX0_keepAheadFromBehind_14 rfl ?_
      refine am_dup2 dX0_keepAheadFromBehind_15 rfl rfl ?_
      obtain ⟨g1, h⟩ := am_grd h
      refine am_iaload dX0_keepAheadFromBehind_16 sh_103 hk_103 (am_inbE g1) ?_
      refine am_iconst dX0_keepAheadFromBehind_17 ic_0 ?_
      refine am_aload_n dX0_keepAheadFromBehind_18 rfl ?_
      refine am_getI dX0_keepAheadFromBehind_19 fl_RX0_91 sh_0 rfl hk_0 ?_
      refine am_iload_n dX0_keepAheadFromBehind_22 rfl ?_
      refine am_aload_n dX0_keepAheadFromBehind_23 rfl ?_
      refine am_getI dX0_keepAheadFromBehind_24 fl_RX0_88 sh_0 rfl hk_0 ?_
      refine am_iload_n dX0_keepAheadFromBehind_27 rfl ?_
      refine am_isub dX0_keepAheadFromBehind_28 ?_
      obtain ⟨r3, c2, h⟩ := am_bnd h
      refine am_callSi (as := [.inl a1, .inl ((M.1 0 0 0 0) - a2)]) dX0_keepAheadFromBehind_29 cs_RX0_124 cb_X0_leastAhead rfl rfl (Nat.le_of_ble_eq_true rfl) (c_X0_leastAhead c2) ?_
      refine am_isub dX0_keepAheadFromBehind_32 ?_
      obtain ⟨r5, c4, h⟩ := am_bnd h
      refine am_callSi (as := [.inl (0 : Int32), .inl ((M.1 0 0 0 1) - r3)]) dX0_keepAheadFromBehind_33 cs_RX0_101 cb_X0_bits rfl rfl (Nat.le_of_ble_eq_true rfl) (c_X0_bits c4) ?_
      refine am_iand dX0_keepAheadFromBehind_36 ?_
      obtain ⟨g6, h⟩ := am_grd h
      obtain ⟨M7, eM7, h⟩ := am_letE h
      refine am_iastore dX0_keepAheadFromBehind_37 sh_103 hk_103 (am_inbE g6) ?_
      refine am_mem eM7 ?_
      obtain ⟨v8, ev8, h⟩ := am_letE h
      refine am_iinc (ls' := [(0, .inr (.inr (0, 0, 0))), (1, .inl a1), (2, .inl v8)]) dX0_keepAheadFromBehind_38 rfl ((congrArg (fun z => a2 + z) ic_1).trans ev8.symm) (Nat.le_of_ble_eq_true rfl) rfl ?_
      refine am_goto 2 dX0_keepAheadFromBehind_41 rfl ?_
      exact am_drop [0, 1, 2] rfl (ih _ _ _ h KX)
def f_X0_keepAheadFromBehind (M : am_M) (x1 : Int32) : Option (am_M) :=
  (l_X0_keepAheadFromBehind_2 x1 1000 (0 : Int32) M).bind (fun z10 => some z10)
set_option maxHeartbeats 4000000 in
theorem w_X0_keepAheadFromBehind {K : am_K} {d : Nat} {post : Option am_V → am_M → Prop} {M : am_M} {x1 : Int32} {y : am_M} (h : f_X0_keepAheadFromBehind M x1 = some y) (hp : post none y) : am_W K (d + 1) m_X0_keepAheadFromBehind 0 [(0, .inr (.inr (0, 0, 0))), (1, .inl x1)] [] M post := by
  unfold f_X0_keepAheadFromBehind at h
  refine am_iconst dX0_keepAheadFromBehind_0 ic_0 ?_
  refine am_istore_n (ls' := [(0, .inr (.inr (0, 0, 0))), (1, .inl x1), (2, .inl (0 : Int32))]) dX0_keepAheadFromBehind_1 (Nat.le_of_ble_eq_true rfl) rfl ?_
  obtain ⟨z10, h11, h⟩ := am_bnd h
  have KK12 : am_W K (d + 1) m_X0_keepAheadFromBehind 44 [] [] z10 post := by
    obtain rfl := Option.some.inj h
    exact am_return dX0_keepAheadFromBehind_44 rfl hp
  exact am_drop [0, 1, 2] rfl (wl_X0_keepAheadFromBehind_2 _ _ _ _ h11 KK12)
theorem c_X0_keepAheadFromBehind {K : am_K} {d : Nat} {M : am_M} {x1 : Int32} {y : am_M} (h : f_X0_keepAheadFromBehind M x1 = some y) : am_Met K (d + 1) m_X0_keepAheadFromBehind [.inr (.inr (0, 0, 0)), .inl x1] M (fun q N => q = none ∧ N = y) :=
  am_Met_of cb_X0_keepAheadFromBehind (Nat.le_of_ble_eq_true rfl) (w_X0_keepAheadFromBehind h ⟨rfl, rfl⟩)
def l_X0_keepAheadUntilSure_2 (a1 : Int32) : Nat → Int32 → am_M → Option (am_M)
  | 0, _, _ => none
  | n + 1, a2, M => (if (M.1 0 0 0 0) < a2 then some M else if am_inb a2 25 = true then (f_X0_aheadBits M a1 a2).bind (fun r3 => (f_X0_bits M (((M.1 0 0 0 0) / (2 : Int32)) + (1 : Int32)) (24 : Int32)).bind (fun r5 => if am_inb a2 25 = true then am_let (am_si M 103 0 0 a2.toNatClampNeg ((M.1 103 0 0 a2.toNatClampNeg) &&& (r3 ||| r5))) (fun M7 => am_let (a2 + (1 : Int32)) (fun v8 => l_X0_keepAheadUntilSure_2 a1 n v8 M7)) else none)) else none)
set_option maxHeartbeats 4000000 in
theorem wl_X0_keepAheadUntilSure_2 {K : am_K} {d : Nat} {post : Option am_V → am_M → Prop} {a1 : Int32} : ∀ (n : Nat) (a2 : Int32) (M : am_M) (x : am_M), l_X0_keepAheadUntilSure_2 a1 n a2 M = some x → am_W K (d + 2) m_X0_keepAheadUntilSure 44 [] [] x post → am_W K (d + 2) m_X0_keepAheadUntilSure 2 [(0, .inr (.inr (0, 0, 0))), (1, .inl a1), (2, .inl a2)] [] M post := by
  intro n
  induction n with
  | zero => intro a2 M x h KX; cases h
  | succ n ih =>
    intro a2 M x h KX
    rw [l_X0_keepAheadUntilSure_2] at h
    refine am_iload_n dX0_keepAheadUntilSure_2 rfl ?_
    refine am_aload_n dX0_keepAheadUntilSure_3 rfl ?_
    refine am_getI dX0_keepAheadUntilSure_4 fl_RX0_88 sh_0 rfl hk_0 ?_
    refine am_icmp_gt 44 dX0_keepAheadUntilSure_7 rfl (fun b9 => ?_) (fun b9 => ?_)
    · replace h := am_ifT b9 h
      obtain rfl := Option.some.inj h
      exact am_drop [] rfl KX
    · replace h := am_ifF b9 h
      refine am_aload_n dX0_keepAheadUntilSure_10 rfl ?_
      refine am_getR (o' := 0) dX0_keepAheadUntilSure_11 fl_RX0_15 sh_0 rfl rfl hk_0 ?_
      refine am_iload_n dX0_keepAheadUntilSure_14 rfl ?_
      refine am_dup2 dX0_keepAheadUntilSure_15 rfl rfl ?_
      obtain ⟨g1, h⟩ := am_grd h
      refine am_iaload dX0_keepAheadUntilSure_16 sh_103 hk_103 (am_inbE g1) ?_
      refine am_iload_n dX0_keepAheadUntilSure_17 rfl ?_
      refine am_iload_n dX0_keepAheadUntilSure_18 rfl ?_
      obtain ⟨r3, c2, h⟩ := am_bnd h
      refine am_callSi (as := [.inl a1, .inl a2]) dX0_keepAheadUntilSure_19 cs_RX0_114 cb_X0_aheadBits rfl rfl (Nat.le_of_ble_eq_true rfl) (c_X0_aheadBits c2) ?_
      refine am_aload_n dX0_keepAheadUntilSure_22 rfl ?_
      refine am_getI dX0_keepAheadUntilSure_23 fl_RX0_88 sh_0 rfl hk_0 ?_
      refine am_iconst dX0_keepAheadUntilSure_26 ic_2 ?_
      refine am_idiv dX0_keepAheadUntilSure_27 (by decide) ?_
      refine am_iconst dX0_keepAheadUntilSure_28 ic_1 ?_
      refine am_iadd dX0_keepAheadUntilSure_29 ?_
      refine am_bipush dX0_keepAheadUntilSure_30 bp_24 ?_
      obtain ⟨r5, c4, h⟩ := am_bnd h
      refine am_callSi (as := [.inl (((M.1 0 0 0 0) / (2 : Int32)) + (1 : Int32)), .inl (24 : Int32)]) dX0_keepAheadUntilSure_32 cs_RX0_101 cb_X0_bits rfl rfl (Nat.le_of_ble_eq_true rfl) (c_X0_bits c4) ?_
      refine am_ior dX0_keepAheadUntilSure_35 ?_
      refine am_iand dX0_keepAheadUntilSure_36 ?_
      obtain ⟨g6, h⟩ := am_grd h
      obtain ⟨M7, eM7, h⟩ := am_letE h
      refine am_iastore dX0_keepAheadUntilSure_37 sh_103 hk_103 (am_inbE g6) ?_
      refine am_mem eM7 ?_
      obtain ⟨v8, ev8, h⟩ := am_letE h
      refine am_iinc (ls' := [(0, .inr (.inr (0, 0, 0))), (1, .inl a1), (2, .inl v8)]) dX0_keepAheadUntilSure_38 rfl ((congrArg (fun z => a2 + z) ic_1).trans ev8.symm) (Nat.le_of_ble_eq_true rfl) rfl ?_
      refine am_goto 2 dX0_keepAheadUntilSure_41 rfl ?_
      exact am_drop [0, 1, 2] rfl (ih _ _ _ h KX)
def f_X0_keepAheadUntilSure (M : am_M) (x1 : Int32) : Option (am_M) :=
  (l_X0_keepAheadUntilSure_2 x1 1000 (1 : Int32) M).bind (fun z10 => some z10)
set_option maxHeartbeats 4000000 in
theorem w_X0_keepAheadUntilSure {K : am_K} {d : Nat} {post : Option am_V → am_M → Prop} {M : am_M} {x1 : Int32} {y : am_M} (h : f_X0_keepAheadUntilSure M x1 = some y) (hp : post none y) : am_W K (d + 2) m_X0_keepAheadUntilSure 0 [(0, .inr (.inr (0, 0, 0))), (1, .inl x1)] [] M post := by
  unfold f_X0_keepAheadUntilSure at h
  refine am_iconst dX0_keepAheadUntilSure_0 ic_1 ?_
  refine am_istore_n (ls' := [(0, .inr (.inr (0, 0, 0))), (1, .inl x1), (2, .inl (1 : Int32))]) dX0_keepAheadUntilSure_1 (Nat.le_of_ble_eq_true rfl) rfl ?_
  obtain ⟨z10, h11, h⟩ := am_bnd h
  have KK12 : am_W K (d + 2) m_X0_keepAheadUntilSure 44 [] [] z10 post := by
    obtain rfl := Option.some.inj h
    exact am_return dX0_keepAheadUntilSure_44 rfl hp
  exact am_drop [0, 1, 2] rfl (wl_X0_keepAheadUntilSure_2 _ _ _ _ h11 KK12)
theorem c_X0_keepAheadUntilSure {K : am_K} {d : Nat} {M : am_M} {x1 : Int32} {y : am_M} (h : f_X0_keepAheadUntilSure M x1 = some y) : am_Met K (d + 2) m_X0_keepAheadUntilSure [.inr (.inr (0, 0, 0)), .inl x1] M (fun q N => q = none ∧ N = y) :=
  am_Met_of cb_X0_keepAheadUntilSure (Nat.le_of_ble_eq_true rfl) (w_X0_keepAheadUntilSure h ⟨rfl, rfl⟩)
def l_X0_markAhead_2  : Nat → Int32 → am_M → Option (am_M)
  | 0, _, _ => none
  | n + 1, a1, M => (if (M.1 0 0 0 0) < a1 then some M else (f_X0_aheadBits M (1 : Int32) a1).bind (fun r2 => if am_inb a1 25 = true then am_let (am_si M 104 0 0 a1.toNatClampNeg r2) (fun M4 => am_let (a1 + (1 : Int32)) (fun v5 => l_X0_markAhead_2  n v5 M4)) else none))
set_option maxHeartbeats 4000000 in
theorem wl_X0_markAhead_2 {K : am_K} {d : Nat} {post : Option am_V → am_M → Prop}  : ∀ (n : Nat) (a1 : Int32) (M : am_M) (x : am_M), l_X0_markAhead_2  n a1 M = some x → am_W K (d + 2) m_X0_markAhead 27 [] [] x post → am_W K (d + 2) m_X0_markAhead 2 [(0, .inr (.inr (0, 0, 0))), (1, .inl a1)] [] M post := by
  intro n
  induction n with
  | zero => intro a1 M x h KX; cases h
  | succ n ih =>
    intro a1 M x h KX
    rw [l_X0_markAhead_2] at h
    refine am_iload_n dX0_markAhead_2 rfl ?_
    refine am_aload_n dX0_markAhead_3 rfl ?_
    refine am_getI dX0_markAhead_4 fl_RX0_88 sh_0 rfl hk_0 ?_
    refine am_icmp_gt 27 dX0_markAhead_7 rfl (fun b6 => ?_) (fun b6 => ?_)
    · replace h := am_ifT b6 h
      obtain rfl := Option.some.inj h
      exact am_drop [] rfl KX
    · replace h := am_ifF b6 h
      refine am_aload_n dX0_markAhead_10 rfl ?_
      refine am_getR (o' := 0) dX0_markAhead_11 fl_RX0_18 sh_0 rfl rfl hk_0 ?_
      refine am_iload_n dX0_markAhead_14 rfl ?_
      refine am_iconst dX0_markAhead_15 ic_1 ?_
      refine am_iload_n dX0_markAhead_16 rfl ?_
      obtain ⟨r2, c1, h⟩ := am_bnd h
      refine am_callSi (as := [.inl (1 : Int32), .inl a1]) dX0_markAhead_17 cs_RX0_114 cb_X0_aheadBits rfl rfl (Nat.le_of_ble_eq_true rfl) (c_X0_aheadBits c1) ?_
      obtain ⟨g3, h⟩ := am_grd h
      obtain ⟨M4, eM4, h⟩ := am_letE h
      refine am_iastore dX0_markAhead_20 sh_104 hk_104 (am_inbE g3) ?_
      refine am_mem eM4 ?_
      obtain ⟨v5, ev5, h⟩ := am_letE h
      refine am_iinc (ls' := [(0, .inr (.inr (0, 0, 0))), (1, .inl v5)]) dX0_markAhead_21 rfl ((congrArg (fun z => a1 + z) ic_1).trans ev5.symm) (Nat.le_of_ble_eq_true rfl) rfl ?_
      refine am_goto 2 dX0_markAhead_24 rfl ?_
      exact am_drop [0, 1] rfl (ih _ _ _ h KX)
def f_X0_markAhead (M : am_M)  : Option (am_M) :=
  (l_X0_markAhead_2  1000 (0 : Int32) M).bind (fun z7 => some z7)
set_option maxHeartbeats 4000000 in
theorem w_X0_markAhead {K : am_K} {d : Nat} {post : Option am_V → am_M → Prop} {M : am_M}  {y : am_M} (h : f_X0_markAhead M  = some y) (hp : post none y) : am_W K (d + 2) m_X0_markAhead 0 [(0, .inr (.inr (0, 0, 0)))] [] M post := by
  unfold f_X0_markAhead at h
  refine am_iconst dX0_markAhead_0 ic_0 ?_
  refine am_istore_n (ls' := [(0, .inr (.inr (0, 0, 0))), (1, .inl (0 : Int32))]) dX0_markAhead_1 (Nat.le_of_ble_eq_true rfl) rfl ?_
  obtain ⟨z7, h8, h⟩ := am_bnd h
  have KK9 : am_W K (d + 2) m_X0_markAhead 27 [] [] z7 post := by
    obtain rfl := Option.some.inj h
    exact am_return dX0_markAhead_27 rfl hp
  exact am_drop [0, 1] rfl (wl_X0_markAhead_2 _ _ _ _ h8 KK9)
theorem c_X0_markAhead {K : am_K} {d : Nat} {M : am_M}  {y : am_M} (h : f_X0_markAhead M  = some y) : am_Met K (d + 2) m_X0_markAhead [.inr (.inr (0, 0, 0))] M (fun q N => q = none ∧ N = y) :=
  am_Met_of cb_X0_markAhead (Nat.le_of_ble_eq_true rfl) (w_X0_markAhead h ⟨rfl, rfl⟩)
def l_X0_markLevel_9  : Nat → Int32 → am_M → Option (am_M)
  | 0, _, _ => none
  | n + 1, a1, M => (if (M.1 0 0 0 0) < a1 then some M else (f_X0_levelBits M a1).bind (fun r3 => if am_inb a1 25 = true then am_let (am_si M 104 0 0 a1.toNatClampNeg r3) (fun M5 => am_let (a1 + (1 : Int32)) (fun v6 => l_X0_markLevel_9  n v6 M5)) else none))
set_option maxHeartbeats 4000000 in
theorem wl_X0_markLevel_9 {K : am_K} {d : Nat} {post : Option am_V → am_M → Prop}  : ∀ (n : Nat) (a1 : Int32) (M : am_M) (x : am_M), l_X0_markLevel_9  n a1 M = some x → am_W K (d + 2) m_X0_markLevel 33 [] [] x post → am_W K (d + 2) m_X0_markLevel 9 [(0, .inr (.inr (0, 0, 0))), (1, .inl a1)] [] M post := by
  intro n
  induction n with
  | zero => intro a1 M x h KX; cases h
  | succ n ih =>
    intro a1 M x h KX
    rw [l_X0_markLevel_9] at h
    refine am_iload_n dX0_markLevel_9 rfl ?_
    refine am_aload_n dX0_markLevel_10 rfl ?_
    refine am_getI dX0_markLevel_11 fl_RX0_88 sh_0 rfl hk_0 ?_
    refine am_icmp_gt 33 dX0_markLevel_14 rfl (fun b7 => ?_) (fun b7 => ?_)
    · replace h := am_ifT b7 h
      obtain rfl := Option.some.inj h
      exact am_drop [] rfl KX
    · replace h := am_ifF b7 h
      refine am_aload_n dX0_markLevel_17 rfl ?_
      refine am_getR (o' := 0) dX0_markLevel_18 fl_RX0_18 sh_0 rfl rfl hk_0 ?_
      refine am_iload_n dX0_markLevel_21 rfl ?_
      refine am_iload_n dX0_markLevel_22 rfl ?_
      obtain ⟨r3, c2, h⟩ := am_bnd h
      refine am_callSi (as := [.inl a1]) dX0_markLevel_23 cs_RX0_120 cb_X0_levelBits rfl rfl (Nat.le_of_ble_eq_true rfl) (c_X0_levelBits c2) ?_
      obtain ⟨g4, h⟩ := am_grd h
      obtain ⟨M5, eM5, h⟩ := am_letE h
      refine am_iastore dX0_markLevel_26 sh_104 hk_104 (am_inbE g4) ?_
      refine am_mem eM5 ?_
      obtain ⟨v6, ev6, h⟩ := am_letE h
      refine am_iinc (ls' := [(0, .inr (.inr (0, 0, 0))), (1, .inl v6)]) dX0_markLevel_27 rfl ((congrArg (fun z => a1 + z) ic_1).trans ev6.symm) (Nat.le_of_ble_eq_true rfl) rfl ?_
      refine am_goto 9 dX0_markLevel_30 rfl ?_
      exact am_drop [0, 1] rfl (ih _ _ _ h KX)
def f_X0_markLevel (M : am_M)  : Option (am_M) :=
  am_let (am_si M 104 0 0 (0 : Int32).toNatClampNeg (0 : Int32)) (fun M1 => (l_X0_markLevel_9  1000 (1 : Int32) M1).bind (fun z8 => some z8))
set_option maxHeartbeats 4000000 in
theorem w_X0_markLevel {K : am_K} {d : Nat} {post : Option am_V → am_M → Prop} {M : am_M}  {y : am_M} (h : f_X0_markLevel M  = some y) (hp : post none y) : am_W K (d + 2) m_X0_markLevel 0 [(0, .inr (.inr (0, 0, 0)))] [] M post := by
  unfold f_X0_markLevel at h
  refine am_aload_n dX0_markLevel_0 rfl ?_
  refine am_getR (o' := 0) dX0_markLevel_1 fl_RX0_18 sh_0 rfl rfl hk_0 ?_
  refine am_iconst dX0_markLevel_4 ic_0 ?_
  refine am_iconst dX0_markLevel_5 ic_0 ?_
  obtain ⟨M1, eM1, h⟩ := am_letE h
  refine am_iastore dX0_markLevel_6 sh_104 hk_104 (am_inbE (by decide)) ?_
  refine am_mem eM1 ?_
  refine am_iconst dX0_markLevel_7 ic_1 ?_
  refine am_istore_n (ls' := [(0, .inr (.inr (0, 0, 0))), (1, .inl (1 : Int32))]) dX0_markLevel_8 (Nat.le_of_ble_eq_true rfl) rfl ?_
  obtain ⟨z8, h9, h⟩ := am_bnd h
  have KK10 : am_W K (d + 2) m_X0_markLevel 33 [] [] z8 post := by
    obtain rfl := Option.some.inj h
    exact am_return dX0_markLevel_33 rfl hp
  exact am_drop [0, 1] rfl (wl_X0_markLevel_9 _ _ _ _ h9 KK10)
theorem c_X0_markLevel {K : am_K} {d : Nat} {M : am_M}  {y : am_M} (h : f_X0_markLevel M  = some y) : am_Met K (d + 2) m_X0_markLevel [.inr (.inr (0, 0, 0))] M (fun q N => q = none ∧ N = y) :=
  am_Met_of cb_X0_markLevel (Nat.le_of_ble_eq_true rfl) (w_X0_markLevel h ⟨rfl, rfl⟩)
def l_X0_markUnsure_2  : Nat → Int32 → am_M → Option (am_M)
  | 0, _, _ => none
  | n + 1, a1, M => (if (M.1 0 0 0 0) ≤ a1 then some M else (f_X0_bits M (a1 - ((M.1 0 0 0 0) / (2 : Int32))) ((M.1 0 0 0 0) / (2 : Int32))).bind (fun r2 => if am_inb a1 25 = true then am_let (am_si M 104 0 0 a1.toNatClampNeg r2) (fun M4 => am_let (a1 + (1 : Int32)) (fun v5 => l_X0_markUnsure_2  n v5 M4)) else none))
set_option maxHeartbeats 4000000 in
theorem wl_X0_markUnsure_2 {K : am_K} {d : Nat} {post : Option am_V → am_M → Prop}  : ∀ (n : Nat) (a1 : Int32) (M : am_M) (x : am_M), l_X0_markUnsure_2  n a1 M = some x → am_W K (d + 1) m_X0_markUnsure 39 [(0, .inr (.inr (0, 0, 0)))] [] x post → am_W K (d + 1) m_X0_markUnsure 2 [(0, .inr (.inr (0, 0, 0))), (1, .inl a1)] [] M post := by
  intro n
  induction n with
  | zero => intro a1 M x h KX; cases h
  | succ n ih =>
    intro a1 M x h KX
    rw [l_X0_markUnsure_2] at h
    refine am_iload_n dX0_markUnsure_2 rfl ?_
    refine am_aload_n dX0_markUnsure_3 rfl ?_
    refine am_getI dX0_markUnsure_4 fl_RX0_88 sh_0 rfl hk_0 ?_
    refine am_icmp_ge 39 dX0_markUnsure_7 rfl (fun b6 => ?_) (fun b6 => ?_)
    · replace h := am_ifT b6 h
      obtain rfl := Option.some.inj h
      exact am_drop [0] rfl KX
    · replace h := am_ifF b6 h
      refine am_aload_n dX0_markUnsure_10 rfl ?_
      refine am_getR (o' := 0) dX0_markUnsure_11 fl_RX0_18 sh_0 rfl rfl hk_0 ?_
      refine am_iload_n dX0_markUnsure_14 rfl ?_
      refine am_iload_n dX0_markUnsure_15 rfl ?_
      refine am_aload_n dX0_markUnsure_16 rfl ?_
      refine am_getI dX0_markUnsure_17 fl_RX0_88 sh_0 rfl hk_0 ?_
      refine am_iconst dX0_markUnsure_20 ic_2 ?_
      refine am_idiv dX0_markUnsure_21 (by decide) ?_
      refine am_isub dX0_markUnsure_22 ?_
      refine am_aload_n dX0_markUnsure_23 rfl ?_
      refine am_getI dX0_markUnsure_24 fl_RX0_88 sh_0 rfl hk_0 ?_
      refine am_iconst dX0_markUnsure_27 ic_2 ?_
      refine am_idiv dX0_markUnsure_28 (by decide) ?_
      obtain ⟨r2, c1, h⟩ := am_bnd h
      refine am_callSi (as := [.inl (a1 - ((M.1 0 0 0 0) / (2 : Int32))), .inl ((M.1 0 0 0 0) / (2 : Int32))]) dX0_markUnsure_29 cs_RX0_101 cb_X0_bits rfl rfl (Nat.le_of_ble_eq_true rfl) (c_X0_bits c1) ?_
      obtain ⟨g3, h⟩ := am_grd h
      obtain ⟨M4, eM4, h⟩ := am_letE h
      refine am_iastore dX0_markUnsure_32 sh_104 hk_104 (am_inbE g3) ?_
      refine am_mem eM4 ?_
      obtain ⟨v5, ev5, h⟩ := am_letE h
      refine am_iinc (ls' := [(0, .inr (.inr (0, 0, 0))), (1, .inl v5)]) dX0_markUnsure_33 rfl ((congrArg (fun z => a1 + z) ic_1).trans ev5.symm) (Nat.le_of_ble_eq_true rfl) rfl ?_
      refine am_goto 2 dX0_markUnsure_36 rfl ?_
      exact am_drop [0, 1] rfl (ih _ _ _ h KX)
def f_X0_markUnsure (M : am_M)  : Option (am_M) :=
  (l_X0_markUnsure_2  1000 (0 : Int32) M).bind (fun z7 => if am_inb (z7.1 0 0 0 0) 25 = true then am_let (am_si z7 104 0 0 (z7.1 0 0 0 0).toNatClampNeg (0 : Int32)) (fun M11 => some M11) else none)
set_option maxHeartbeats 4000000 in
theorem w_X0_markUnsure {K : am_K} {d : Nat} {post : Option am_V → am_M → Prop} {M : am_M}  {y : am_M} (h : f_X0_markUnsure M  = some y) (hp : post none y) : am_W K (d + 1) m_X0_markUnsure 0 [(0, .inr (.inr (0, 0, 0)))] [] M post := by
  unfold f_X0_markUnsure at h
  refine am_iconst dX0_markUnsure_0 ic_0 ?_
  refine am_istore_n (ls' := [(0, .inr (.inr (0, 0, 0))), (1, .inl (0 : Int32))]) dX0_markUnsure_1 (Nat.le_of_ble_eq_true rfl) rfl ?_
  obtain ⟨z7, h8, h⟩ := am_bnd h
  have KK9 : am_W K (d + 1) m_X0_markUnsure 39 [(0, .inr (.inr (0, 0, 0)))] [] z7 post := by
    refine am_aload_n dX0_markUnsure_39 rfl ?_
    refine am_getR (o' := 0) dX0_markUnsure_40 fl_RX0_18 sh_0 rfl rfl hk_0 ?_
    refine am_aload_n dX0_markUnsure_43 rfl ?_
    refine am_getI dX0_markUnsure_44 fl_RX0_88 sh_0 rfl hk_0 ?_
    refine am_iconst dX0_markUnsure_47 ic_0 ?_
    obtain ⟨g10, h⟩ := am_grd h
    obtain ⟨M11, eM11, h⟩ := am_letE h
    refine am_iastore dX0_markUnsure_48 sh_104 hk_104 (am_inbE g10) ?_
    refine am_mem eM11 ?_
    obtain rfl := Option.some.inj h
    exact am_return dX0_markUnsure_49 rfl hp
  exact am_drop [0, 1] rfl (wl_X0_markUnsure_2 _ _ _ _ h8 KK9)
theorem c_X0_markUnsure {K : am_K} {d : Nat} {M : am_M}  {y : am_M} (h : f_X0_markUnsure M  = some y) : am_Met K (d + 1) m_X0_markUnsure [.inr (.inr (0, 0, 0))] M (fun q N => q = none ∧ N = y) :=
  am_Met_of cb_X0_markUnsure (Nat.le_of_ble_eq_true rfl) (w_X0_markUnsure h ⟨rfl, rfl⟩)
def f_X4_isWithin (M : am_M) (x0 : Int32) (x1 : Int32) : Option (Int32) :=
  (if x0 < 0 then some (0 : Int32) else (if x1 < x0 then some (0 : Int32) else some (1 : Int32)))
set_option maxHeartbeats 4000000 in
theorem w_X4_isWithin {K : am_K} {d : Nat} {post : Option am_V → am_M → Prop} {M : am_M} {x0 : Int32} {x1 : Int32} {y : Int32} (h : f_X4_isWithin M x0 x1 = some y) (hp : post (some (.inl y)) M) : am_W K d m_X4_isWithin 0 [(0, .inl x0), (1, .inl x1)] [] M post := by
  unfold f_X4_isWithin at h
  refine am_iload_n dX4_isWithin_0 rfl ?_
  refine am_if_lt 13 dX4_isWithin_1 rfl (fun b2 => ?_) (fun b2 => ?_)
  · replace h := am_ifT b2 h
    refine am_iconst dX4_isWithin_13 ic_0 ?_
    obtain rfl := Option.some.inj h
    exact am_ireturn dX4_isWithin_14 rfl (am_narZ (by decide)) hp
  · replace h := am_ifF b2 h
    refine am_iload_n dX4_isWithin_4 rfl ?_
    refine am_iload_n dX4_isWithin_5 rfl ?_
    refine am_icmp_gt 13 dX4_isWithin_6 rfl (fun b1 => ?_) (fun b1 => ?_)
    · replace h := am_ifT b1 h
      refine am_iconst dX4_isWithin_13 ic_0 ?_
      obtain rfl := Option.some.inj h
      exact am_ireturn dX4_isWithin_14 rfl (am_narZ (by decide)) hp
    · replace h := am_ifF b1 h
      refine am_iconst dX4_isWithin_9 ic_1 ?_
      refine am_goto 14 dX4_isWithin_10 rfl ?_
      obtain rfl := Option.some.inj h
      exact am_ireturn dX4_isWithin_14 rfl (am_narZ (by decide)) hp
theorem c_X4_isWithin {K : am_K} {d : Nat} {M : am_M} {x0 : Int32} {x1 : Int32} {y : Int32} (h : f_X4_isWithin M x0 x1 = some y) : am_Met K d m_X4_isWithin [.inl x0, .inl x1] M (fun q N => q = some (.inl y) ∧ N = M) :=
  am_Met_of cb_X4_isWithin (Nat.le_of_ble_eq_true rfl) (w_X4_isWithin h ⟨rfl, rfl⟩)
def f_X0_isOpen (M : am_M) (x1 : Int32) (x2 : Int32) : Option (Int32) :=
  (f_X4_isWithin M x1 (M.1 0 0 0 0)).bind (fun r2 => (if r2 = 0 then some (0 : Int32) else (f_X4_isWithin M x2 (24 : Int32)).bind (fun r4 => (if r4 = 0 then some (0 : Int32) else if am_inb x1 25 = true then (if (((M.1 103 0 0 x1.toNatClampNeg) >>> (x2 &&& 31)) &&& (1 : Int32)) = (1 : Int32) then some (1 : Int32) else some (0 : Int32)) else none))))
set_option maxHeartbeats 4000000 in
theorem w_X0_isOpen {K : am_K} {d : Nat} {post : Option am_V → am_M → Prop} {M : am_M} {x1 : Int32} {x2 : Int32} {y : Int32} (h : f_X0_isOpen M x1 x2 = some y) (hp : post (some (.inl y)) M) : am_W K (d + 1) m_X0_isOpen 0 [(0, .inr (.inr (0, 0, 0))), (1, .inl x1), (2, .inl x2)] [] M post := by
  unfold f_X0_isOpen at h
  refine am_iload_n dX0_isOpen_0 rfl ?_
  refine am_aload_n dX0_isOpen_1 rfl ?_
  refine am_getI dX0_isOpen_2 fl_RX0_88 sh_0 rfl hk_0 ?_
  obtain ⟨r2, c1, h⟩ := am_bnd h
  refine am_callNi (as := [.inl x1, .inl (M.1 0 0 0 0)]) (mi' := m_X4_isWithin) (host := "AlwaysAhead") dX0_isOpen_5 (fun U hU => hU.2.1) (cs_RX4_54.2) cb_X4_isWithin rfl rfl (Nat.le_of_ble_eq_true rfl) (c_X4_isWithin c1) ?_
  refine am_if_eq 38 dX0_isOpen_8 rfl (fun b8 => ?_) (fun b8 => ?_)
  · replace h := am_ifT b8 h
    refine am_iconst dX0_isOpen_38 ic_0 ?_
    obtain rfl := Option.some.inj h
    exact am_ireturn dX0_isOpen_39 rfl (am_narZ (by decide)) hp
  · replace h := am_ifF b8 h
    refine am_iload_n dX0_isOpen_11 rfl ?_
    refine am_bipush dX0_isOpen_12 bp_24 ?_
    obtain ⟨r4, c3, h⟩ := am_bnd h
    refine am_callNi (as := [.inl x2, .inl (24 : Int32)]) (mi' := m_X4_isWithin) (host := "AlwaysAhead") dX0_isOpen_14 (fun U hU => hU.2.1) (cs_RX4_54.2) cb_X4_isWithin rfl rfl (Nat.le_of_ble_eq_true rfl) (c_X4_isWithin c3) ?_
    refine am_if_eq 38 dX0_isOpen_17 rfl (fun b7 => ?_) (fun b7 => ?_)
    · replace h := am_ifT b7 h
      refine am_iconst dX0_isOpen_38 ic_0 ?_
      obtain rfl := Option.some.inj h
      exact am_ireturn dX0_isOpen_39 rfl (am_narZ (by decide)) hp
    · replace h := am_ifF b7 h
      refine am_aload_n dX0_isOpen_20 rfl ?_
      refine am_getR (o' := 0) dX0_isOpen_21 fl_RX0_15 sh_0 rfl rfl hk_0 ?_
      refine am_iload_n dX0_isOpen_24 rfl ?_
      obtain ⟨g5, h⟩ := am_grd h
      refine am_iaload dX0_isOpen_25 sh_103 hk_103 (am_inbE g5) ?_
      refine am_iload_n dX0_isOpen_26 rfl ?_
      refine am_ishr dX0_isOpen_27 ?_
      refine am_iconst dX0_isOpen_28 ic_1 ?_
      refine am_iand dX0_isOpen_29 ?_
      refine am_iconst dX0_isOpen_30 ic_1 ?_
      refine am_icmp_ne 38 dX0_isOpen_31 rfl (fun b6 => ?_) (fun b6 => ?_)
      · replace h := am_ifF b6 h
        refine am_iconst dX0_isOpen_38 ic_0 ?_
        obtain rfl := Option.some.inj h
        exact am_ireturn dX0_isOpen_39 rfl (am_narZ (by decide)) hp
      · replace h := am_ifT b6 h
        refine am_iconst dX0_isOpen_34 ic_1 ?_
        refine am_goto 39 dX0_isOpen_35 rfl ?_
        obtain rfl := Option.some.inj h
        exact am_ireturn dX0_isOpen_39 rfl (am_narZ (by decide)) hp
theorem c_X0_isOpen {K : am_K} {d : Nat} {M : am_M} {x1 : Int32} {x2 : Int32} {y : Int32} (h : f_X0_isOpen M x1 x2 = some y) : am_Met K (d + 1) m_X0_isOpen [.inr (.inr (0, 0, 0)), .inl x1, .inl x2] M (fun q N => q = some (.inl y) ∧ N = M) :=
  am_Met_of cb_X0_isOpen (Nat.le_of_ble_eq_true rfl) (w_X0_isOpen h ⟨rfl, rfl⟩)
def f_X0_isMarked (M : am_M) (x1 : Int32) (x2 : Int32) : Option (Int32) :=
  (f_X4_isWithin M x1 (M.1 0 0 0 0)).bind (fun r2 => (if r2 = 0 then some (0 : Int32) else (f_X4_isWithin M x2 (24 : Int32)).bind (fun r4 => (if r4 = 0 then some (0 : Int32) else if am_inb x1 25 = true then (if (((M.1 104 0 0 x1.toNatClampNeg) >>> (x2 &&& 31)) &&& (1 : Int32)) = (1 : Int32) then some (1 : Int32) else some (0 : Int32)) else none))))
set_option maxHeartbeats 4000000 in
theorem w_X0_isMarked {K : am_K} {d : Nat} {post : Option am_V → am_M → Prop} {M : am_M} {x1 : Int32} {x2 : Int32} {y : Int32} (h : f_X0_isMarked M x1 x2 = some y) (hp : post (some (.inl y)) M) : am_W K (d + 1) m_X0_isMarked 0 [(0, .inr (.inr (0, 0, 0))), (1, .inl x1), (2, .inl x2)] [] M post := by
  unfold f_X0_isMarked at h
  refine am_iload_n dX0_isMarked_0 rfl ?_
  refine am_aload_n dX0_isMarked_1 rfl ?_
  refine am_getI dX0_isMarked_2 fl_RX0_88 sh_0 rfl hk_0 ?_
  obtain ⟨r2, c1, h⟩ := am_bnd h
  refine am_callNi (as := [.inl x1, .inl (M.1 0 0 0 0)]) (mi' := m_X4_isWithin) (host := "AlwaysAhead") dX0_isMarked_5 (fun U hU => hU.2.1) (cs_RX4_54.2) cb_X4_isWithin rfl rfl (Nat.le_of_ble_eq_true rfl) (c_X4_isWithin c1) ?_
  refine am_if_eq 38 dX0_isMarked_8 rfl (fun b8 => ?_) (fun b8 => ?_)
  · replace h := am_ifT b8 h
    refine am_iconst dX0_isMarked_38 ic_0 ?_
    obtain rfl := Option.some.inj h
    exact am_ireturn dX0_isMarked_39 rfl (am_narZ (by decide)) hp
  · replace h := am_ifF b8 h
    refine am_iload_n dX0_isMarked_11 rfl ?_
    refine am_bipush dX0_isMarked_12 bp_24 ?_
    obtain ⟨r4, c3, h⟩ := am_bnd h
    refine am_callNi (as := [.inl x2, .inl (24 : Int32)]) (mi' := m_X4_isWithin) (host := "AlwaysAhead") dX0_isMarked_14 (fun U hU => hU.2.1) (cs_RX4_54.2) cb_X4_isWithin rfl rfl (Nat.le_of_ble_eq_true rfl) (c_X4_isWithin c3) ?_
    refine am_if_eq 38 dX0_isMarked_17 rfl (fun b7 => ?_) (fun b7 => ?_)
    · replace h := am_ifT b7 h
      refine am_iconst dX0_isMarked_38 ic_0 ?_
      obtain rfl := Option.some.inj h
      exact am_ireturn dX0_isMarked_39 rfl (am_narZ (by decide)) hp
    · replace h := am_ifF b7 h
      refine am_aload_n dX0_isMarked_20 rfl ?_
      refine am_getR (o' := 0) dX0_isMarked_21 fl_RX0_18 sh_0 rfl rfl hk_0 ?_
      refine am_iload_n dX0_isMarked_24 rfl ?_
      obtain ⟨g5, h⟩ := am_grd h
      refine am_iaload dX0_isMarked_25 sh_104 hk_104 (am_inbE g5) ?_
      refine am_iload_n dX0_isMarked_26 rfl ?_
      refine am_ishr dX0_isMarked_27 ?_
      refine am_iconst dX0_isMarked_28 ic_1 ?_
      refine am_iand dX0_isMarked_29 ?_
      refine am_iconst dX0_isMarked_30 ic_1 ?_
      refine am_icmp_ne 38 dX0_isMarked_31 rfl (fun b6 => ?_) (fun b6 => ?_)
      · replace h := am_ifF b6 h
        refine am_iconst dX0_isMarked_38 ic_0 ?_
        obtain rfl := Option.some.inj h
        exact am_ireturn dX0_isMarked_39 rfl (am_narZ (by decide)) hp
      · replace h := am_ifT b6 h
        refine am_iconst dX0_isMarked_34 ic_1 ?_
        refine am_goto 39 dX0_isMarked_35 rfl ?_
        obtain rfl := Option.some.inj h
        exact am_ireturn dX0_isMarked_39 rfl (am_narZ (by decide)) hp
theorem c_X0_isMarked {K : am_K} {d : Nat} {M : am_M} {x1 : Int32} {x2 : Int32} {y : Int32} (h : f_X0_isMarked M x1 x2 = some y) : am_Met K (d + 1) m_X0_isMarked [.inr (.inr (0, 0, 0)), .inl x1, .inl x2] M (fun q N => q = some (.inl y) ∧ N = M) :=
  am_Met_of cb_X0_isMarked (Nat.le_of_ble_eq_true rfl) (w_X0_isMarked h ⟨rfl, rfl⟩)
def l_J7_fill_53178_5 (k0 : Nat) (p0 : Nat) (q0 : Nat) (n0 : Nat) (a1 : Int32) (a3 : Int32) : Nat → Int32 → am_M → Option (am_M)
  | 0, _, _ => none
  | n + 1, a2, M => (if a3 ≤ a2 then some M else if am_inb a2 n0 = true then am_let (am_si M k0 p0 q0 a2.toNatClampNeg a1) (fun M3 => am_let (a2 + (1 : Int32)) (fun v4 => l_J7_fill_53178_5 k0 p0 q0 n0 a1 a3 n v4 M3)) else none)
set_option maxHeartbeats 4000000 in
theorem wl_J7_fill_53178_5 {K : am_K} {d : Nat} {post : Option am_V → am_M → Prop} {k0 : Nat} {p0 : Nat} {q0 : Nat} {n0 : Nat} {a1 : Int32} {a3 : Int32} (hs0 : am_sh k0 = .inr (.inl (0, n0))) (hk0 : k0 < 9000) : ∀ (n : Nat) (a2 : Int32) (M : am_M) (x : am_M), l_J7_fill_53178_5 k0 p0 q0 n0 a1 a3 n a2 M = some x → am_W K d m_J7_fill_53178 20 [] [] x post → am_W K d m_J7_fill_53178 5 [(0, .inr (.inr (k0, p0, q0))), (1, .inl a1), (2, .inl a2), (3, .inl a3)] [] M post := by
  intro n
  induction n with
  | zero => intro a2 M x h KX; cases h
  | succ n ih =>
    intro a2 M x h KX
    rw [l_J7_fill_53178_5] at h
    refine am_iload_n dJ7_fill_53178_5 rfl ?_
    refine am_iload_n dJ7_fill_53178_6 rfl ?_
    refine am_icmp_ge 20 dJ7_fill_53178_7 rfl (fun b5 => ?_) (fun b5 => ?_)
    · replace h := am_ifT b5 h
      obtain rfl := Option.some.inj h
      exact am_drop [] rfl KX
    · replace h := am_ifF b5 h
      refine am_aload_n dJ7_fill_53178_10 rfl ?_
      refine am_iload_n dJ7_fill_53178_11 rfl ?_
      refine am_iload_n dJ7_fill_53178_12 rfl ?_
      obtain ⟨g2, h⟩ := am_grd h
      obtain ⟨M3, eM3, h⟩ := am_letE h
      refine am_iastore dJ7_fill_53178_13 hs0 hk0 (am_inbE g2) ?_
      refine am_mem eM3 ?_
      obtain ⟨v4, ev4, h⟩ := am_letE h
      refine am_iinc (ls' := [(0, .inr (.inr (k0, p0, q0))), (1, .inl a1), (2, .inl v4), (3, .inl a3)]) dJ7_fill_53178_14 rfl ((congrArg (fun z => a2 + z) ic_1).trans ev4.symm) (Nat.le_of_ble_eq_true rfl) rfl ?_
      refine am_goto 5 dJ7_fill_53178_17 rfl ?_
      exact am_drop [0, 1, 2, 3] rfl (ih _ _ _ h KX)
def f_J7_fill_53178 (M : am_M) (k0 : Nat) (p0 : Nat) (q0 : Nat) (n0 : Nat) (x1 : Int32) : Option (am_M) :=
  am_let (Int32.ofNat n0) (fun v1 => (l_J7_fill_53178_5 k0 p0 q0 n0 x1 v1 1000 (0 : Int32) M).bind (fun z6 => some z6))
set_option maxHeartbeats 4000000 in
theorem w_J7_fill_53178 {K : am_K} {d : Nat} {post : Option am_V → am_M → Prop} {M : am_M} {k0 : Nat} {p0 : Nat} {q0 : Nat} {n0 : Nat} {x1 : Int32} (hs0 : am_sh k0 = .inr (.inl (0, n0))) (hk0 : k0 < 9000) {y : am_M} (h : f_J7_fill_53178 M k0 p0 q0 n0 x1 = some y) (hp : post none y) : am_W K d m_J7_fill_53178 0 [(0, .inr (.inr (k0, p0, q0))), (1, .inl x1)] [] M post := by
  unfold f_J7_fill_53178 at h
  refine am_iconst dJ7_fill_53178_0 ic_0 ?_
  refine am_istore_n (ls' := [(0, .inr (.inr (k0, p0, q0))), (1, .inl x1), (2, .inl (0 : Int32))]) dJ7_fill_53178_1 (Nat.le_of_ble_eq_true rfl) rfl ?_
  refine am_aload_n dJ7_fill_53178_2 rfl ?_
  refine am_alen dJ7_fill_53178_3 hs0 (by decide) hk0 rfl ?_
  obtain ⟨v1, ev1, h⟩ := am_letE h
  refine am_topI ev1 ?_
  refine am_istore_n (ls' := [(0, .inr (.inr (k0, p0, q0))), (1, .inl x1), (2, .inl (0 : Int32)), (3, .inl v1)]) dJ7_fill_53178_4 (Nat.le_of_ble_eq_true rfl) rfl ?_
  obtain ⟨z6, h7, h⟩ := am_bnd h
  have KK8 : am_W K d m_J7_fill_53178 20 [] [] z6 post := by
    obtain rfl := Option.some.inj h
    exact am_return dJ7_fill_53178_20 rfl hp
  exact am_drop [0, 1, 2, 3] rfl (wl_J7_fill_53178_5 hs0 hk0 _ _ _ _ h7 KK8)
theorem c_J7_fill_53178 {K : am_K} {d : Nat} {M : am_M} {k0 : Nat} {p0 : Nat} {q0 : Nat} {n0 : Nat} {x1 : Int32} (hs0 : am_sh k0 = .inr (.inl (0, n0))) (hk0 : k0 < 9000) {y : am_M} (h : f_J7_fill_53178 M k0 p0 q0 n0 x1 = some y) : am_Met K d m_J7_fill_53178 [.inr (.inr (k0, p0, q0)), .inl x1] M (fun q N => q = none ∧ N = y) :=
  am_Met_of cb_J7_fill_53178 (Nat.le_of_ble_eq_true rfl) (w_J7_fill_53178 hs0 hk0 h ⟨rfl, rfl⟩)
def l_J7_fill_d0a16_6 (k0 : Nat) (p0 : Nat) (q0 : Nat) (n0 : Nat) (a1 : Int64) (a4 : Int32) : Nat → Int32 → am_M → Option (am_M)
  | 0, _, _ => none
  | n + 1, a3, M => (if a4 ≤ a3 then some M else if am_inb a3 n0 = true then am_let (am_sl M k0 p0 q0 a3.toNatClampNeg a1) (fun M3 => am_let (a3 + (1 : Int32)) (fun v4 => l_J7_fill_d0a16_6 k0 p0 q0 n0 a1 a4 n v4 M3)) else none)
set_option maxHeartbeats 4000000 in
theorem wl_J7_fill_d0a16_6 {K : am_K} {d : Nat} {post : Option am_V → am_M → Prop} {k0 : Nat} {p0 : Nat} {q0 : Nat} {n0 : Nat} {a1 : Int64} {a4 : Int32} (hs0 : am_sh k0 = .inr (.inl (2, n0))) (hk0 : k0 < 9000) : ∀ (n : Nat) (a3 : Int32) (M : am_M) (x : am_M), l_J7_fill_d0a16_6 k0 p0 q0 n0 a1 a4 n a3 M = some x → am_W K d m_J7_fill_d0a16 22 [] [] x post → am_W K d m_J7_fill_d0a16 6 [(0, .inr (.inr (k0, p0, q0))), (1, .inr (.inl a1)), (3, .inl a3), (4, .inl a4)] [] M post := by
  intro n
  induction n with
  | zero => intro a3 M x h KX; cases h
  | succ n ih =>
    intro a3 M x h KX
    rw [l_J7_fill_d0a16_6] at h
    refine am_iload_n dJ7_fill_d0a16_6 rfl ?_
    refine am_iload dJ7_fill_d0a16_7 rfl ?_
    refine am_icmp_ge 22 dJ7_fill_d0a16_9 rfl (fun b5 => ?_) (fun b5 => ?_)
    · replace h := am_ifT b5 h
      obtain rfl := Option.some.inj h
      exact am_drop [] rfl KX
    · replace h := am_ifF b5 h
      refine am_aload_n dJ7_fill_d0a16_12 rfl ?_
      refine am_iload_n dJ7_fill_d0a16_13 rfl ?_
      refine am_lload_n dJ7_fill_d0a16_14 rfl ?_
      obtain ⟨g2, h⟩ := am_grd h
      obtain ⟨M3, eM3, h⟩ := am_letE h
      refine am_lastore dJ7_fill_d0a16_15 hs0 hk0 (am_inbE g2) ?_
      refine am_mem eM3 ?_
      obtain ⟨v4, ev4, h⟩ := am_letE h
      refine am_iinc (ls' := [(0, .inr (.inr (k0, p0, q0))), (1, .inr (.inl a1)), (3, .inl v4), (4, .inl a4)]) dJ7_fill_d0a16_16 rfl ((congrArg (fun z => a3 + z) ic_1).trans ev4.symm) (Nat.le_of_ble_eq_true rfl) rfl ?_
      refine am_goto 6 dJ7_fill_d0a16_19 rfl ?_
      exact am_drop [0, 1, 3, 4] rfl (ih _ _ _ h KX)
def f_J7_fill_d0a16 (M : am_M) (k0 : Nat) (p0 : Nat) (q0 : Nat) (n0 : Nat) (x1 : Int64) : Option (am_M) :=
  am_let (Int32.ofNat n0) (fun v1 => (l_J7_fill_d0a16_6 k0 p0 q0 n0 x1 v1 1000 (0 : Int32) M).bind (fun z6 => some z6))
set_option maxHeartbeats 4000000 in
theorem w_J7_fill_d0a16 {K : am_K} {d : Nat} {post : Option am_V → am_M → Prop} {M : am_M} {k0 : Nat} {p0 : Nat} {q0 : Nat} {n0 : Nat} {x1 : Int64} (hs0 : am_sh k0 = .inr (.inl (2, n0))) (hk0 : k0 < 9000) {y : am_M} (h : f_J7_fill_d0a16 M k0 p0 q0 n0 x1 = some y) (hp : post none y) : am_W K d m_J7_fill_d0a16 0 [(0, .inr (.inr (k0, p0, q0))), (1, .inr (.inl x1))] [] M post := by
  unfold f_J7_fill_d0a16 at h
  refine am_iconst dJ7_fill_d0a16_0 ic_0 ?_
  refine am_istore_n (ls' := [(0, .inr (.inr (k0, p0, q0))), (1, .inr (.inl x1)), (3, .inl (0 : Int32))]) dJ7_fill_d0a16_1 (Nat.le_of_ble_eq_true rfl) rfl ?_
  refine am_aload_n dJ7_fill_d0a16_2 rfl ?_
  refine am_alen dJ7_fill_d0a16_3 hs0 (by decide) hk0 rfl ?_
  obtain ⟨v1, ev1, h⟩ := am_letE h
  refine am_topI ev1 ?_
  refine am_istore (ls' := [(0, .inr (.inr (k0, p0, q0))), (1, .inr (.inl x1)), (3, .inl (0 : Int32)), (4, .inl v1)]) dJ7_fill_d0a16_4 (Nat.le_of_ble_eq_true rfl) rfl ?_
  obtain ⟨z6, h7, h⟩ := am_bnd h
  have KK8 : am_W K d m_J7_fill_d0a16 22 [] [] z6 post := by
    obtain rfl := Option.some.inj h
    exact am_return dJ7_fill_d0a16_22 rfl hp
  exact am_drop [0, 1, 3, 4] rfl (wl_J7_fill_d0a16_6 hs0 hk0 _ _ _ _ h7 KK8)
theorem c_J7_fill_d0a16 {K : am_K} {d : Nat} {M : am_M} {k0 : Nat} {p0 : Nat} {q0 : Nat} {n0 : Nat} {x1 : Int64} (hs0 : am_sh k0 = .inr (.inl (2, n0))) (hk0 : k0 < 9000) {y : am_M} (h : f_J7_fill_d0a16 M k0 p0 q0 n0 x1 = some y) : am_Met K d m_J7_fill_d0a16 [.inr (.inr (k0, p0, q0)), .inr (.inl x1)] M (fun q N => q = none ∧ N = y) :=
  am_Met_of cb_J7_fill_d0a16 (Nat.le_of_ble_eq_true rfl) (w_J7_fill_d0a16 hs0 hk0 h ⟨rfl, rfl⟩)
def f_X0_walkInto (M : am_M) (x1 : Int32) (x2 : Int32) : Option (am_M) :=
  if am_inb x1 25 = true then (if (((M.1 103 0 0 x1.toNatClampNeg) >>> (x2 &&& 31)) &&& (1 : Int32)) = 0 then if am_inb x2 25 = true then am_let (am_si M 105 0 0 x2.toNatClampNeg (0 : Int32)) (fun M21 => if am_inb x2 25 = true then am_let (am_sl M21 106 0 0 x2.toNatClampNeg (0 : Int64)) (fun M23 => some M23) else none) else none else ((if x2 ≤ 0 then some M else if am_inb x2 25 = true then if am_inb (x2 - (1 : Int32)) 25 = true then if am_inb x2 25 = true then am_let (am_si M 105 0 0 x2.toNatClampNeg ((M.1 105 0 0 x2.toNatClampNeg) + (M.1 105 0 0 (x2 - (1 : Int32)).toNatClampNeg))) (fun M8 => if am_inb x2 25 = true then if am_inb (x2 - (1 : Int32)) 25 = true then if am_inb x2 25 = true then am_let (am_sl M8 106 0 0 x2.toNatClampNeg ((M8.2 106 0 0 x2.toNatClampNeg) + (M8.2 106 0 0 (x2 - (1 : Int32)).toNatClampNeg))) (fun M12 => some M12) else none else none else none) else none else none else none) : Option (am_M)).bind (fun z2 => if am_inb x1 25 = true then (if (((z2.1 104 0 0 x1.toNatClampNeg) >>> (x2 &&& 31)) &&& (1 : Int32)) = (1 : Int32) then if am_inb x2 25 = true then if am_inb x2 25 = true then if am_inb x2 25 = true then am_let (am_sl z2 106 0 0 x2.toNatClampNeg ((z2.2 106 0 0 x2.toNatClampNeg) + ((z2.1 105 0 0 x2.toNatClampNeg).toInt64))) (fun M18 => some M18) else none else none else none else some z2) else none)) else none
set_option maxHeartbeats 4000000 in
theorem w_X0_walkInto {K : am_K} {d : Nat} {post : Option am_V → am_M → Prop} {M : am_M} {x1 : Int32} {x2 : Int32} {y : am_M} (h : f_X0_walkInto M x1 x2 = some y) (hp : post none y) : am_W K d m_X0_walkInto 0 [(0, .inr (.inr (0, 0, 0))), (1, .inl x1), (2, .inl x2)] [] M post := by
  unfold f_X0_walkInto at h
  refine am_aload_n dX0_walkInto_0 rfl ?_
  refine am_getR (o' := 0) dX0_walkInto_1 fl_RX0_15 sh_0 rfl rfl hk_0 ?_
  refine am_iload_n dX0_walkInto_4 rfl ?_
  obtain ⟨g1, h⟩ := am_grd h
  refine am_iaload dX0_walkInto_5 sh_103 hk_103 (am_inbE g1) ?_
  refine am_iload_n dX0_walkInto_6 rfl ?_
  refine am_ishr dX0_walkInto_7 ?_
  refine am_iconst dX0_walkInto_8 ic_1 ?_
  refine am_iand dX0_walkInto_9 ?_
  refine am_if_ne 28 dX0_walkInto_10 rfl (fun b24 => ?_) (fun b24 => ?_)
  · replace h := am_ifF b24 h
    refine am_iload_n dX0_walkInto_28 rfl ?_
    obtain ⟨z2, h3, h⟩ := am_bnd h
    have KK4 : am_W K d m_X0_walkInto 66 [(0, .inr (.inr (0, 0, 0))), (1, .inl x1), (2, .inl x2)] [] z2 post := by
      refine am_aload_n dX0_walkInto_66 rfl ?_
      refine am_getR (o' := 0) dX0_walkInto_67 fl_RX0_18 sh_0 rfl rfl hk_0 ?_
      refine am_iload_n dX0_walkInto_70 rfl ?_
      obtain ⟨g14, h⟩ := am_grd h
      refine am_iaload dX0_walkInto_71 sh_104 hk_104 (am_inbE g14) ?_
      refine am_iload_n dX0_walkInto_72 rfl ?_
      refine am_ishr dX0_walkInto_73 ?_
      refine am_iconst dX0_walkInto_74 ic_1 ?_
      refine am_iand dX0_walkInto_75 ?_
      refine am_iconst dX0_walkInto_76 ic_1 ?_
      refine am_icmp_ne 96 dX0_walkInto_77 rfl (fun b19 => ?_) (fun b19 => ?_)
      · replace h := am_ifF b19 h
        obtain rfl := Option.some.inj h
        exact am_return dX0_walkInto_96 rfl hp
      · replace h := am_ifT b19 h
        refine am_aload_n dX0_walkInto_80 rfl ?_
        refine am_getR (o' := 0) dX0_walkInto_81 fl_RX0_24 sh_0 rfl rfl hk_0 ?_
        refine am_iload_n dX0_walkInto_84 rfl ?_
        refine am_dup2 dX0_walkInto_85 rfl rfl ?_
        obtain ⟨g15, h⟩ := am_grd h
        refine am_laload dX0_walkInto_86 sh_106 hk_106 (am_inbE g15) ?_
        refine am_aload_n dX0_walkInto_87 rfl ?_
        refine am_getR (o' := 0) dX0_walkInto_88 fl_RX0_21 sh_0 rfl rfl hk_0 ?_
        refine am_iload_n dX0_walkInto_91 rfl ?_
        obtain ⟨g16, h⟩ := am_grd h
        refine am_iaload dX0_walkInto_92 sh_105 hk_105 (am_inbE g16) ?_
        refine am_i2l dX0_walkInto_93 ?_
        refine am_ladd dX0_walkInto_94 ?_
        obtain ⟨g17, h⟩ := am_grd h
        obtain ⟨M18, eM18, h⟩ := am_letE h
        refine am_lastore dX0_walkInto_95 sh_106 hk_106 (am_inbE g17) ?_
        refine am_mem eM18 ?_
        obtain rfl := Option.some.inj h
        exact am_return dX0_walkInto_96 rfl hp
    clear h
    refine am_if_le 66 dX0_walkInto_29 rfl (fun b13 => ?_) (fun b13 => ?_)
    · replace h3 := am_ifT b13 h3
      obtain rfl := Option.some.inj h3
      exact am_drop [0, 1, 2] rfl KK4
    · replace h3 := am_ifF b13 h3
      refine am_aload_n dX0_walkInto_32 rfl ?_
      refine am_getR (o' := 0) dX0_walkInto_33 fl_RX0_21 sh_0 rfl rfl hk_0 ?_
      refine am_iload_n dX0_walkInto_36 rfl ?_
      refine am_dup2 dX0_walkInto_37 rfl rfl ?_
      obtain ⟨g5, h3⟩ := am_grd h3
      refine am_iaload dX0_walkInto_38 sh_105 hk_105 (am_inbE g5) ?_
      refine am_aload_n dX0_walkInto_39 rfl ?_
      refine am_getR (o' := 0) dX0_walkInto_40 fl_RX0_21 sh_0 rfl rfl hk_0 ?_
      refine am_iload_n dX0_walkInto_43 rfl ?_
      refine am_iconst dX0_walkInto_44 ic_1 ?_
      refine am_isub dX0_walkInto_45 ?_
      obtain ⟨g6, h3⟩ := am_grd h3
      refine am_iaload dX0_walkInto_46 sh_105 hk_105 (am_inbE g6) ?_
      refine am_iadd dX0_walkInto_47 ?_
      obtain ⟨g7, h3⟩ := am_grd h3
      obtain ⟨M8, eM8, h3⟩ := am_letE h3
      refine am_iastore dX0_walkInto_48 sh_105 hk_105 (am_inbE g7) ?_
      refine am_mem eM8 ?_
      refine am_aload_n dX0_walkInto_49 rfl ?_
      refine am_getR (o' := 0) dX0_walkInto_50 fl_RX0_24 sh_0 rfl rfl hk_0 ?_
      refine am_iload_n dX0_walkInto_53 rfl ?_
      refine am_dup2 dX0_walkInto_54 rfl rfl ?_
      obtain ⟨g9, h3⟩ := am_grd h3
      refine am_laload dX0_walkInto_55 sh_106 hk_106 (am_inbE g9) ?_
      refine am_aload_n dX0_walkInto_56 rfl ?_
      refine am_getR (o' := 0) dX0_walkInto_57 fl_RX0_24 sh_0 rfl rfl hk_0 ?_
      refine am_iload_n dX0_walkInto_60 rfl ?_
      refine am_iconst dX0_walkInto_61 ic_1 ?_
      refine am_isub dX0_walkInto_62 ?_
      obtain ⟨g10, h3⟩ := am_grd h3
      refine am_laload dX0_walkInto_63 sh_106 hk_106 (am_inbE g10) ?_
      refine am_ladd dX0_walkInto_64 ?_
      obtain ⟨g11, h3⟩ := am_grd h3
      obtain ⟨M12, eM12, h3⟩ := am_letE h3
      refine am_lastore dX0_walkInto_65 sh_106 hk_106 (am_inbE g11) ?_
      refine am_mem eM12 ?_
      obtain rfl := Option.some.inj h3
      exact am_drop [0, 1, 2] rfl KK4
  · replace h := am_ifT b24 h
    refine am_aload_n dX0_walkInto_13 rfl ?_
    refine am_getR (o' := 0) dX0_walkInto_14 fl_RX0_21 sh_0 rfl rfl hk_0 ?_
    refine am_iload_n dX0_walkInto_17 rfl ?_
    refine am_iconst dX0_walkInto_18 ic_0 ?_
    obtain ⟨g20, h⟩ := am_grd h
    obtain ⟨M21, eM21, h⟩ := am_letE h
    refine am_iastore dX0_walkInto_19 sh_105 hk_105 (am_inbE g20) ?_
    refine am_mem eM21 ?_
    refine am_aload_n dX0_walkInto_20 rfl ?_
    refine am_getR (o' := 0) dX0_walkInto_21 fl_RX0_24 sh_0 rfl rfl hk_0 ?_
    refine am_iload_n dX0_walkInto_24 rfl ?_
    refine am_lconst dX0_walkInto_25 lc_0 ?_
    obtain ⟨g22, h⟩ := am_grd h
    obtain ⟨M23, eM23, h⟩ := am_letE h
    refine am_lastore dX0_walkInto_26 sh_106 hk_106 (am_inbE g22) ?_
    refine am_mem eM23 ?_
    obtain rfl := Option.some.inj h
    exact am_return dX0_walkInto_27 rfl hp
theorem c_X0_walkInto {K : am_K} {d : Nat} {M : am_M} {x1 : Int32} {x2 : Int32} {y : am_M} (h : f_X0_walkInto M x1 x2 = some y) : am_Met K d m_X0_walkInto [.inr (.inr (0, 0, 0)), .inl x1, .inl x2] M (fun q N => q = none ∧ N = y) :=
  am_Met_of cb_X0_walkInto (Nat.le_of_ble_eq_true rfl) (w_X0_walkInto h ⟨rfl, rfl⟩)
def l_X0_walk_80 (a1 : Int32) (a2 : Int32) : Nat → Int32 → am_M → Option (am_M)
  | 0, _, _ => none
  | n + 1, a3, M => (if a3 < 0 then some M else ((if ((a2 >>> (a3 &&& 31)) &&& (1 : Int32)) = (1 : Int32) then (f_X0_walkInto M a1 a3).bind (fun r14 => some r14) else some M) : Option (am_M)).bind (fun z10 => am_let (a3 + (-1 : Int32)) (fun v16 => l_X0_walk_80 a1 a2 n v16 z10)))
set_option maxHeartbeats 4000000 in
theorem wl_X0_walk_80 {K : am_K} {d : Nat} {post : Option am_V → am_M → Prop} {a1 : Int32} {a2 : Int32} : ∀ (n : Nat) (a3 : Int32) (M : am_M) (x : am_M), l_X0_walk_80 a1 a2 n a3 M = some x → am_W K (d + 1) m_X0_walk 105 [(0, .inr (.inr (0, 0, 0))), (1, .inl a1)] [] x post → am_W K (d + 1) m_X0_walk 80 [(0, .inr (.inr (0, 0, 0))), (1, .inl a1), (2, .inl a2), (3, .inl a3)] [] M post := by
  intro n
  induction n with
  | zero => intro a3 M x h KX; cases h
  | succ n ih =>
    intro a3 M x h KX
    rw [l_X0_walk_80] at h
    refine am_iload_n dX0_walk_80 rfl ?_
    refine am_if_lt 105 dX0_walk_81 rfl (fun b17 => ?_) (fun b17 => ?_)
    · replace h := am_ifT b17 h
      obtain rfl := Option.some.inj h
      exact am_drop [0, 1] rfl KX
    · replace h := am_ifF b17 h
      refine am_iload_n dX0_walk_84 rfl ?_
      refine am_iload_n dX0_walk_85 rfl ?_
      refine am_ishr dX0_walk_86 ?_
      refine am_iconst dX0_walk_87 ic_1 ?_
      refine am_iand dX0_walk_88 ?_
      refine am_iconst dX0_walk_89 ic_1 ?_
      obtain ⟨z10, h11, h⟩ := am_bnd h
      have KK12 : am_W K (d + 1) m_X0_walk 99 [(0, .inr (.inr (0, 0, 0))), (1, .inl a1), (2, .inl a2), (3, .inl a3)] [] z10 post := by
        obtain ⟨v16, ev16, h⟩ := am_letE h
        refine am_iinc (ls' := [(0, .inr (.inr (0, 0, 0))), (1, .inl a1), (2, .inl a2), (3, .inl v16)]) dX0_walk_99 rfl ((congrArg (fun z => a3 + z) ic_m1).trans ev16.symm) (Nat.le_of_ble_eq_true rfl) rfl ?_
        refine am_goto 80 dX0_walk_102 rfl ?_
        exact am_drop [0, 1, 2, 3] rfl (ih _ _ _ h KX)
      clear h
      refine am_icmp_ne 99 dX0_walk_90 rfl (fun b15 => ?_) (fun b15 => ?_)
      · replace h11 := am_ifF b15 h11
        obtain rfl := Option.some.inj h11
        exact am_drop [0, 1, 2, 3] rfl KK12
      · replace h11 := am_ifT b15 h11
        refine am_aload_n dX0_walk_93 rfl ?_
        refine am_iload_n dX0_walk_94 rfl ?_
        refine am_iload_n dX0_walk_95 rfl ?_
        obtain ⟨r14, c13, h11⟩ := am_bnd h11
        refine am_callVv (as := [.inl a1, .inl a3]) dX0_walk_96 cv_RX0_143 cb_X0_walkInto sh_0 rfl hk_0 rfl rfl (Nat.le_of_ble_eq_true rfl) (c_X0_walkInto c13) ?_
        obtain rfl := Option.some.inj h11
        exact am_drop [0, 1, 2, 3] rfl KK12
def l_X0_walk_54  : Nat → Int32 → am_M → Option (am_M)
  | 0, _, _ => none
  | n + 1, a1, M => (if (M.1 0 0 0 0) < a1 then some M else if am_inb (a1 - (1 : Int32)) 25 = true then if am_inb a1 25 = true then am_let ((M.1 103 0 0 (a1 - (1 : Int32)).toNatClampNeg) ||| (M.1 103 0 0 a1.toNatClampNeg)) (fun v9 => (l_X0_walk_80 a1 v9 1000 a1 M).bind (fun z18 => am_let (a1 + (1 : Int32)) (fun v21 => l_X0_walk_54  n v21 z18))) else none else none)
set_option maxHeartbeats 4000000 in
theorem wl_X0_walk_54 {K : am_K} {d : Nat} {post : Option am_V → am_M → Prop}  : ∀ (n : Nat) (a1 : Int32) (M : am_M) (x : am_M), l_X0_walk_54  n a1 M = some x → am_W K (d + 1) m_X0_walk 111 [] [] x post → am_W K (d + 1) m_X0_walk 54 [(0, .inr (.inr (0, 0, 0))), (1, .inl a1)] [] M post := by
  intro n
  induction n with
  | zero => intro a1 M x h KX; cases h
  | succ n ih =>
    intro a1 M x h KX
    rw [l_X0_walk_54] at h
    refine am_iload_n dX0_walk_54 rfl ?_
    refine am_aload_n dX0_walk_55 rfl ?_
    refine am_getI dX0_walk_56 fl_RX0_88 sh_0 rfl hk_0 ?_
    refine am_icmp_gt 111 dX0_walk_59 rfl (fun b22 => ?_) (fun b22 => ?_)
    · replace h := am_ifT b22 h
      obtain rfl := Option.some.inj h
      exact am_drop [] rfl KX
    · replace h := am_ifF b22 h
      refine am_aload_n dX0_walk_62 rfl ?_
      refine am_getR (o' := 0) dX0_walk_63 fl_RX0_15 sh_0 rfl rfl hk_0 ?_
      refine am_iload_n dX0_walk_66 rfl ?_
      refine am_iconst dX0_walk_67 ic_1 ?_
      refine am_isub dX0_walk_68 ?_
      obtain ⟨g7, h⟩ := am_grd h
      refine am_iaload dX0_walk_69 sh_103 hk_103 (am_inbE g7) ?_
      refine am_aload_n dX0_walk_70 rfl ?_
      refine am_getR (o' := 0) dX0_walk_71 fl_RX0_15 sh_0 rfl rfl hk_0 ?_
      refine am_iload_n dX0_walk_74 rfl ?_
      obtain ⟨g8, h⟩ := am_grd h
      refine am_iaload dX0_walk_75 sh_103 hk_103 (am_inbE g8) ?_
      refine am_ior dX0_walk_76 ?_
      obtain ⟨v9, ev9, h⟩ := am_letE h
      refine am_topI ev9 ?_
      refine am_istore_n (ls' := [(0, .inr (.inr (0, 0, 0))), (1, .inl a1), (2, .inl v9)]) dX0_walk_77 (Nat.le_of_ble_eq_true rfl) rfl ?_
      refine am_iload_n dX0_walk_78 rfl ?_
      refine am_istore_n (ls' := [(0, .inr (.inr (0, 0, 0))), (1, .inl a1), (2, .inl v9), (3, .inl a1)]) dX0_walk_79 (Nat.le_of_ble_eq_true rfl) rfl ?_
      obtain ⟨z18, h19, h⟩ := am_bnd h
      have KK20 : am_W K (d + 1) m_X0_walk 105 [(0, .inr (.inr (0, 0, 0))), (1, .inl a1)] [] z18 post := by
        obtain ⟨v21, ev21, h⟩ := am_letE h
        refine am_iinc (ls' := [(0, .inr (.inr (0, 0, 0))), (1, .inl v21)]) dX0_walk_105 rfl ((congrArg (fun z => a1 + z) ic_1).trans ev21.symm) (Nat.le_of_ble_eq_true rfl) rfl ?_
        refine am_goto 54 dX0_walk_108 rfl ?_
        exact am_drop [0, 1] rfl (ih _ _ _ h KX)
      exact am_drop [0, 1, 2, 3] rfl (wl_X0_walk_80 _ _ _ _ h19 KK20)
def f_X0_walk (M : am_M)  : Option (am_M) :=
  (f_J7_fill_53178 M 105 0 0 25 (0 : Int32)).bind (fun r2 => (f_J7_fill_d0a16 r2 106 0 0 25 (0 : Int64)).bind (fun r4 => am_let (am_si r4 105 0 0 (0 : Int32).toNatClampNeg ((r4.1 103 0 0 (0 : Int32).toNatClampNeg) &&& (1 : Int32))) (fun M5 => am_let (am_sl M5 106 0 0 (0 : Int32).toNatClampNeg ((((M5.1 103 0 0 (0 : Int32).toNatClampNeg) &&& (M5.1 104 0 0 (0 : Int32).toNatClampNeg)) &&& (1 : Int32)).toInt64)) (fun M6 => (l_X0_walk_54  1000 (1 : Int32) M6).bind (fun z23 => some z23)))))
set_option maxHeartbeats 4000000 in
theorem w_X0_walk {K : am_K} {d : Nat} {post : Option am_V → am_M → Prop} {M : am_M}  {y : am_M} (h : f_X0_walk M  = some y) (hp : post none y) : am_W K (d + 1) m_X0_walk 0 [(0, .inr (.inr (0, 0, 0)))] [] M post := by
  unfold f_X0_walk at h
  refine am_aload_n dX0_walk_0 rfl ?_
  refine am_getR (o' := 0) dX0_walk_1 fl_RX0_21 sh_0 rfl rfl hk_0 ?_
  refine am_iconst dX0_walk_4 ic_0 ?_
  obtain ⟨r2, c1, h⟩ := am_bnd h
  refine am_callSv (as := [.inr (.inr (105, 0, 0)), .inl (0 : Int32)]) dX0_walk_5 cs_RX0_134 cb_J7_fill_53178 rfl rfl (Nat.le_of_ble_eq_true rfl) (c_J7_fill_53178 sh_105 hk_105 c1) ?_
  refine am_aload_n dX0_walk_8 rfl ?_
  refine am_getR (o' := 0) dX0_walk_9 fl_RX0_24 sh_0 rfl rfl hk_0 ?_
  refine am_lconst dX0_walk_12 lc_0 ?_
  obtain ⟨r4, c3, h⟩ := am_bnd h
  refine am_callSv (as := [.inr (.inr (106, 0, 0)), .inr (.inl (0 : Int64))]) dX0_walk_13 cs_RX0_140 cb_J7_fill_d0a16 rfl rfl (Nat.le_of_ble_eq_true rfl) (c_J7_fill_d0a16 sh_106 hk_106 c3) ?_
  refine am_aload_n dX0_walk_16 rfl ?_
  refine am_getR (o' := 0) dX0_walk_17 fl_RX0_21 sh_0 rfl rfl hk_0 ?_
  refine am_iconst dX0_walk_20 ic_0 ?_
  refine am_aload_n dX0_walk_21 rfl ?_
  refine am_getR (o' := 0) dX0_walk_22 fl_RX0_15 sh_0 rfl rfl hk_0 ?_
  refine am_iconst dX0_walk_25 ic_0 ?_
  refine am_iaload dX0_walk_26 sh_103 hk_103 (am_inbE (by decide)) ?_
  refine am_iconst dX0_walk_27 ic_1 ?_
  refine am_iand dX0_walk_28 ?_
  obtain ⟨M5, eM5, h⟩ := am_letE h
  refine am_iastore dX0_walk_29 sh_105 hk_105 (am_inbE (by decide)) ?_
  refine am_mem eM5 ?_
  refine am_aload_n dX0_walk_30 rfl ?_
  refine am_getR (o' := 0) dX0_walk_31 fl_RX0_24 sh_0 rfl rfl hk_0 ?_
  refine am_iconst dX0_walk_34 ic_0 ?_
  refine am_aload_n dX0_walk_35 rfl ?_
  refine am_getR (o' := 0) dX0_walk_36 fl_RX0_15 sh_0 rfl rfl hk_0 ?_
  refine am_iconst dX0_walk_39 ic_0 ?_
  refine am_iaload dX0_walk_40 sh_103 hk_103 (am_inbE (by decide)) ?_
  refine am_aload_n dX0_walk_41 rfl ?_
  refine am_getR (o' := 0) dX0_walk_42 fl_RX0_18 sh_0 rfl rfl hk_0 ?_
  refine am_iconst dX0_walk_45 ic_0 ?_
  refine am_iaload dX0_walk_46 sh_104 hk_104 (am_inbE (by decide)) ?_
  refine am_iand dX0_walk_47 ?_
  refine am_iconst dX0_walk_48 ic_1 ?_
  refine am_iand dX0_walk_49 ?_
  refine am_i2l dX0_walk_50 ?_
  obtain ⟨M6, eM6, h⟩ := am_letE h
  refine am_lastore dX0_walk_51 sh_106 hk_106 (am_inbE (by decide)) ?_
  refine am_mem eM6 ?_
  refine am_iconst dX0_walk_52 ic_1 ?_
  refine am_istore_n (ls' := [(0, .inr (.inr (0, 0, 0))), (1, .inl (1 : Int32))]) dX0_walk_53 (Nat.le_of_ble_eq_true rfl) rfl ?_
  obtain ⟨z23, h24, h⟩ := am_bnd h
  have KK25 : am_W K (d + 1) m_X0_walk 111 [] [] z23 post := by
    obtain rfl := Option.some.inj h
    exact am_return dX0_walk_111 rfl hp
  exact am_drop [0, 1] rfl (wl_X0_walk_54 _ _ _ _ h24 KK25)
theorem c_X0_walk {K : am_K} {d : Nat} {M : am_M}  {y : am_M} (h : f_X0_walk M  = some y) : am_Met K (d + 1) m_X0_walk [.inr (.inr (0, 0, 0))] M (fun q N => q = none ∧ N = y) :=
  am_Met_of cb_X0_walk (Nat.le_of_ble_eq_true rfl) (w_X0_walk h ⟨rfl, rfl⟩)
