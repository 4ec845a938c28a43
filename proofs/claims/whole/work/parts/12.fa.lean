def l_X0_keepNotAbove_2 (a1 : Int32) : Nat → Int32 → am_M → Option (am_M)
  | 0, _, _ => none
  | n + 1, a2, M => (if (M.1 0 0 0 0) < a2 then some M else if am_inb a2 25 = true then (f_X0_bits M (0 : Int32) (am_fdv (a1 + a2) (2 : Int32))).bind (fun r3 => if am_inb a2 25 = true then am_let (am_si M 103 0 0 a2.toNatClampNeg ((M.1 103 0 0 a2.toNatClampNeg) &&& r3)) (fun M5 => am_let (a2 + (1 : Int32)) (fun v6 => l_X0_keepNotAbove_2 a1 n v6 M5)) else none) else none)
set_option maxHeartbeats 4000000 in
theorem wl_X0_keepNotAbove_2 {K : am_K} {d : Nat} {post : Option am_V → am_M → Prop} {a1 : Int32} : ∀ (n : Nat) (a2 : Int32) (M : am_M) (x : am_M), l_X0_keepNotAbove_2 a1 n a2 M = some x → am_W K (d + 1) m_X0_keepNotAbove 36 [] [] x post → am_W K (d + 1) m_X0_keepNotAbove 2 [(0, .inr (.inr (0, 0, 0))), (1, .inl a1), (2, .inl a2)] [] M post := by
  intro n
  induction n with
  | zero => intro a2 M x h KX; cases h
  | succ n ih =>
    intro a2 M x h KX
    rw [l_X0_keepNotAbove_2] at h
    refine am_iload_n dX0_keepNotAbove_2 rfl ?_
    refine am_aload_n dX0_keepNotAbove_3 rfl ?_
    refine am_getI dX0_keepNotAbove_4 fl_RX0_88 sh_0 rfl hk_0 ?_
    refine am_icmp_gt 36 dX0_keepNotAbove_7 rfl (fun b7 => ?_) (fun b7 => ?_)
    · replace h := am_ifT b7 h
      obtain rfl := Option.some.inj h
      exact am_drop [] rfl KX
    · replace h := am_ifF b7 h
      refine am_aload_n dX0_keepNotAbove_10 rfl ?_
      refine am_getR (o' := 0) dX0_keepNotAbove_11 fl_RX0_15 sh_0 rfl rfl hk_0 ?_
      refine am_iload_n dX0_keepNotAbove_14 rfl ?_
      refine am_dup2 dX0_keepNotAbove_15 rfl rfl ?_
      obtain ⟨g1, h⟩ := am_grd h
      refine am_iaload dX0_keepNotAbove_16 sh_103 hk_103 (am_inbE g1) ?_
      refine am_iconst dX0_keepNotAbove_17 ic_0 ?_
      refine am_iload_n dX0_keepNotAbove_18 rfl ?_
      refine am_iload_n dX0_keepNotAbove_19 rfl ?_
      refine am_iadd dX0_keepNotAbove_20 ?_
      refine am_iconst dX0_keepNotAbove_21 ic_2 ?_
      refine am_mfdv dX0_keepNotAbove_22 cm_RX0_117 (by decide) (Nat.le_of_ble_eq_true rfl) ?_
      obtain ⟨r3, c2, h⟩ := am_bnd h
      refine am_callSi (as := [.inl (0 : Int32), .inl (am_fdv (a1 + a2) (2 : Int32))]) dX0_keepNotAbove_25 cs_RX0_101 cb_X0_bits rfl rfl (Nat.le_of_ble_eq_true rfl) (c_X0_bits c2) ?_
      refine am_iand dX0_keepNotAbove_28 ?_
      obtain ⟨g4, h⟩ := am_grd h
      obtain ⟨M5, eM5, h⟩ := am_letE h
      refine am_iastore dX0_keepNotAbove_29 sh_103 hk_103 (am_inbE g4) ?_
      refine am_mem eM5 ?_
      obtain ⟨v6, ev6, h⟩ := am_letE h
      refine am_iinc (ls' := [(0, .inr (.inr (0, 0, 0))), (1, .inl a1), (2, .inl v6)]) dX0_keepNotAbove_30 rfl ((congrArg (fun z => a2 + z) ic_1).trans ev6.symm) (Nat.le_of_ble_eq_true rfl) rfl ?_
      refine am_goto 2 dX0_keepNotAbove_33 rfl ?_
      exact am_drop [0, 1, 2] rfl (ih _ _ _ h KX)
def f_X0_keepNotAbove (M : am_M) (x1 : Int32) : Option (am_M) :=
  (l_X0_keepNotAbove_2 x1 1000 (0 : Int32) M).bind (fun z8 => some z8)
set_option maxHeartbeats 4000000 in
theorem w_X0_keepNotAbove {K : am_K} {d : Nat} {post : Option am_V → am_M → Prop} {M : am_M} {x1 : Int32} {y : am_M} (h : f_X0_keepNotAbove M x1 = some y) (hp : post none y) : am_W K (d + 1) m_X0_keepNotAbove 0 [(0, .inr (.inr (0, 0, 0))), (1, .inl x1)] [] M post := by
  unfold f_X0_keepNotAbove at h
  refine am_iconst dX0_keepNotAbove_0 ic_0 ?_
  refine am_istore_n (ls' := [(0, .inr (.inr (0, 0, 0))), (1, .inl x1), (2, .inl (0 : Int32))]) dX0_keepNotAbove_1 (Nat.le_of_ble_eq_true rfl) rfl ?_
  obtain ⟨z8, h9, h⟩ := am_bnd h
  have KK10 : am_W K (d + 1) m_X0_keepNotAbove 36 [] [] z8 post := by
    obtain rfl := Option.some.inj h
    exact am_return dX0_keepNotAbove_36 rfl hp
  exact am_drop [0, 1, 2] rfl (wl_X0_keepNotAbove_2 _ _ _ _ h9 KK10)
theorem c_X0_keepNotAbove {K : am_K} {d : Nat} {M : am_M} {x1 : Int32} {y : am_M} (h : f_X0_keepNotAbove M x1 = some y) : am_Met K (d + 1) m_X0_keepNotAbove [.inr (.inr (0, 0, 0)), .inl x1] M (fun q N => q = none ∧ N = y) :=
  am_Met_of cb_X0_keepNotAbove (Nat.le_of_ble_eq_true rfl) (w_X0_keepNotAbove h ⟨rfl, rfl⟩)
def l_X3_isWord_28 (M : am_M) (t1 : Nat) : Nat → Int32 → Option (Int32)
  | 0, _ => none
  | n + 1, a2 => (f_J0_length_8abf5 M t1).bind (fun r4 => (if r4 ≤ a2 then some (1 : Int32) else if am_inb ((M.1 3 0 0 1) + a2) 250 = true then (f_J0_charAt_5068e M t1 a2).bind (fun r7 => (if (M.1 402 0 0 ((M.1 3 0 0 1) + a2).toNatClampNeg) = r7 then am_let (a2 + (1 : Int32)) (fun v8 => l_X3_isWord_28 M t1 n v8) else some (0 : Int32))) else none))
set_option maxHeartbeats 4000000 in
theorem wl_X3_isWord_28 {K : am_K} {d : Nat} {post : Option am_V → am_M → Prop} {M : am_M} {t1 : Nat} (ht1 : t1 < 4) : ∀ (n : Nat) (a2 : Int32) (y : Int32), l_X3_isWord_28 M t1 n a2 = some y → post (some (.inl y)) M → am_W K (d + 5) m_X3_isWord 28 [(0, .inr (.inr (3, 0, 0))), (1, .inr (.inr (9100, t1, 0))), (2, .inl a2)] [] M post := by
  intro n
  induction n with
  | zero => intro a2 y h hp; cases h
  | succ n ih =>
    intro a2 y h hp
    rw [l_X3_isWord_28] at h
    refine am_iload_n dX3_isWord_28 rfl ?_
    refine am_aload_n dX3_isWord_29 rfl ?_
    obtain ⟨r4, c3, h⟩ := am_bnd h
    refine am_callTi (as := []) dX3_isWord_30 cv_RX3_96 cb_J0_length_8abf5 ht1 rfl rfl rfl (Nat.le_of_ble_eq_true rfl) (c_J0_length_8abf5 ht1 c3) ?_
    refine am_icmp_ge 63 dX3_isWord_33 rfl (fun b10 => ?_) (fun b10 => ?_)
    · replace h := am_ifT b10 h
      refine am_iconst dX3_isWord_63 ic_1 ?_
      obtain rfl := Option.some.inj h
      exact am_ireturn dX3_isWord_64 rfl (am_narZ (by decide)) hp
    · replace h := am_ifF b10 h
      refine am_aload_n dX3_isWord_36 rfl ?_
      refine am_getR (o' := 0) dX3_isWord_37 fl_RX3_9 sh_3 rfl rfl hk_3 ?_
      refine am_aload_n dX3_isWord_40 rfl ?_
      refine am_getI dX3_isWord_41 fl_RX3_85 sh_3 rfl hk_3 ?_
      refine am_iload_n dX3_isWord_44 rfl ?_
      refine am_iadd dX3_isWord_45 ?_
      obtain ⟨g5, h⟩ := am_grd h
      refine am_iaload dX3_isWord_46 sh_402 hk_402 (am_inbE g5) ?_
      refine am_aload_n dX3_isWord_47 rfl ?_
      refine am_iload_n dX3_isWord_48 rfl ?_
      obtain ⟨r7, c6, h⟩ := am_bnd h
      refine am_callTi (as := [.inl a2]) dX3_isWord_49 cv_RX3_102 cb_J0_charAt_5068e ht1 rfl rfl rfl (Nat.le_of_ble_eq_true rfl) (c_J0_charAt_5068e ht1 c6) ?_
      refine am_icmp_eq 57 dX3_isWord_52 rfl (fun b9 => ?_) (fun b9 => ?_)
      · replace h := am_ifT b9 h
        obtain ⟨v8, ev8, h⟩ := am_letE h
        refine am_iinc (ls' := [(0, .inr (.inr (3, 0, 0))), (1, .inr (.inr (9100, t1, 0))), (2, .inl v8)]) dX3_isWord_57 rfl ((congrArg (fun z => a2 + z) ic_1).trans ev8.symm) (Nat.le_of_ble_eq_true rfl) rfl ?_
        refine am_goto 28 dX3_isWord_60 rfl ?_
        exact am_drop [0, 1, 2] rfl (ih _ _ h hp)
      · replace h := am_ifF b9 h
        refine am_iconst dX3_isWord_55 ic_0 ?_
        obtain rfl := Option.some.inj h
        exact am_ireturn dX3_isWord_56 rfl (am_narZ (by decide)) hp
def f_X3_isWord (M : am_M) (t1 : Nat) : Option (Int32) :=
  (if (M.1 3 0 0 4) = (1 : Int32) then (f_J0_length_8abf5 M t1).bind (fun r2 => (if ((M.1 3 0 0 3) - (M.1 3 0 0 1)) = r2 then l_X3_isWord_28 M t1 1000 (0 : Int32) else some (0 : Int32))) else some (0 : Int32))
set_option maxHeartbeats 4000000 in
theorem w_X3_isWord {K : am_K} {d : Nat} {post : Option am_V → am_M → Prop} {M : am_M} {t1 : Nat} (ht1 : t1 < 4) {y : Int32} (h : f_X3_isWord M t1 = some y) (hp : post (some (.inl y)) M) : am_W K (d + 5) m_X3_isWord 0 [(0, .inr (.inr (3, 0, 0))), (1, .inr (.inr (9100, t1, 0)))] [] M post := by
  unfold f_X3_isWord at h
  refine am_aload_n dX3_isWord_0 rfl ?_
  refine am_getI dX3_isWord_1 fl_RX3_29 sh_3 rfl hk_3 ?_
  refine am_iconst dX3_isWord_4 ic_1 ?_
  refine am_icmp_ne 24 dX3_isWord_5 rfl (fun b12 => ?_) (fun b12 => ?_)
  · replace h := am_ifF b12 h
    refine am_iconst dX3_isWord_24 ic_0 ?_
    obtain rfl := Option.some.inj h
    exact am_ireturn dX3_isWord_25 rfl (am_narZ (by decide)) hp
  · replace h := am_ifT b12 h
    refine am_aload_n dX3_isWord_8 rfl ?_
    refine am_getI dX3_isWord_9 fl_RX3_19 sh_3 rfl hk_3 ?_
    refine am_aload_n dX3_isWord_12 rfl ?_
    refine am_getI dX3_isWord_13 fl_RX3_85 sh_3 rfl hk_3 ?_
    refine am_isub dX3_isWord_16 ?_
    refine am_aload_n dX3_isWord_17 rfl ?_
    obtain ⟨r2, c1, h⟩ := am_bnd h
    refine am_callTi (as := []) dX3_isWord_18 cv_RX3_96 cb_J0_length_8abf5 ht1 rfl rfl rfl (Nat.le_of_ble_eq_true rfl) (c_J0_length_8abf5 ht1 c1) ?_
    refine am_icmp_eq 26 dX3_isWord_21 rfl (fun b11 => ?_) (fun b11 => ?_)
    · replace h := am_ifT b11 h
      refine am_iconst dX3_isWord_26 ic_0 ?_
      refine am_istore_n (ls' := [(0, .inr (.inr (3, 0, 0))), (1, .inr (.inr (9100, t1, 0))), (2, .inl (0 : Int32))]) dX3_isWord_27 (Nat.le_of_ble_eq_true rfl) rfl ?_
      exact am_drop [0, 1, 2] rfl (wl_X3_isWord_28 ht1 _ _ _ h hp)
    · replace h := am_ifF b11 h
      refine am_iconst dX3_isWord_24 ic_0 ?_
      obtain rfl := Option.some.inj h
      exact am_ireturn dX3_isWord_25 rfl (am_narZ (by decide)) hp
theorem c_X3_isWord {K : am_K} {d : Nat} {M : am_M} {t1 : Nat} (ht1 : t1 < 4) {y : Int32} (h : f_X3_isWord M t1 = some y) : am_Met K (d + 5) m_X3_isWord [.inr (.inr (3, 0, 0)), .inr (.inr (9100, t1, 0))] M (fun q N => q = some (.inl y) ∧ N = M) :=
  am_Met_of cb_X3_isWord (Nat.le_of_ble_eq_true rfl) (w_X3_isWord ht1 h ⟨rfl, rfl⟩)
def f_X3_statement (M : am_M) (o1 : Nat) : Option (Int32 × am_M) :=
  (f_X3_isWord M 0).bind (fun r2 => (if r2 = 0 then (f_X3_isWord M 1).bind (fun r4 => (if r4 = 0 then (f_X3_isWord M 2).bind (fun r6 => (if r6 = 0 then (f_X3_isWord M 3).bind (fun r8 => (if r8 = 0 then some ((0 : Int32), M) else (f_X3_swapStatement M o1).bind (fun r10 => (if r10.1 = 0 then some ((0 : Int32), r10.2) else some ((1 : Int32), r10.2))))) else (f_X3_readStatement M o1).bind (fun r14 => if (r14.1 = 0 ∨ r14.1 = 1) then some (r14.1, r14.2) else none))) else (f_X3_factStatement M o1).bind (fun r18 => if (r18.1 = 0 ∨ r18.1 = 1) then some (r18.1, r18.2) else none))) else (f_X3_heapStatement M o1).bind (fun r22 => if (r22.1 = 0 ∨ r22.1 = 1) then some (r22.1, r22.2) else none)))
set_option maxHeartbeats 4000000 in
theorem w_X3_statement {K : am_K} {d : Nat} {post : Option am_V → am_M → Prop} {M : am_M} {o1 : Nat} {y : Int32 × am_M} (h : f_X3_statement M o1 = some y) (hp : post (some (.inl y.1)) y.2) : am_W K (d + 6) m_X3_statement 0 [(0, .inr (.inr (3, 0, 0))), (1, .inr (.inr (1, o1, 0)))] [] M post := by
  unfold f_X3_statement at h
  refine am_aload_n dX3_statement_0 rfl ?_
  refine am_ldcS (tx := "heap") (k := 0) dX3_statement_1 (fun U hU => hU.2.2.2.2.2.2.2.2.2.1) ?_
  obtain ⟨r2, c1, h⟩ := am_bnd h
  refine am_callVi (as := [.inr (.inr (9100, 0, 0))]) dX3_statement_3 cv_RX3_34 cb_X3_isWord sh_3 rfl hk_3 rfl rfl (Nat.le_of_ble_eq_true rfl) (c_X3_isWord (by decide) c1) ?_
  refine am_if_eq 15 dX3_statement_6 rfl (fun b24 => ?_) (fun b24 => ?_)
  · replace h := am_ifT b24 h
    refine am_aload_n dX3_statement_15 rfl ?_
    refine am_ldcS (tx := "fact") (k := 1) dX3_statement_16 (fun U hU => hU.2.2.2.2.2.2.2.2.2.2.1) ?_
    obtain ⟨r4, c3, h⟩ := am_bnd h
    refine am_callVi (as := [.inr (.inr (9100, 1, 0))]) dX3_statement_18 cv_RX3_34 cb_X3_isWord sh_3 rfl hk_3 rfl rfl (Nat.le_of_ble_eq_true rfl) (c_X3_isWord (by decide) c3) ?_
    refine am_if_eq 30 dX3_statement_21 rfl (fun b20 => ?_) (fun b20 => ?_)
    · replace h := am_ifT b20 h
      refine am_aload_n dX3_statement_30 rfl ?_
      refine am_ldcS (tx := "read") (k := 2) dX3_statement_31 (fun U hU => hU.2.2.2.2.2.2.2.2.2.2.2.1) ?_
      obtain ⟨r6, c5, h⟩ := am_bnd h
      refine am_callVi (as := [.inr (.inr (9100, 2, 0))]) dX3_statement_33 cv_RX3_34 cb_X3_isWord sh_3 rfl hk_3 rfl rfl (Nat.le_of_ble_eq_true rfl) (c_X3_isWord (by decide) c5) ?_
      refine am_if_eq 45 dX3_statement_36 rfl (fun b16 => ?_) (fun b16 => ?_)
      · replace h := am_ifT b16 h
        refine am_aload_n dX3_statement_45 rfl ?_
        refine am_ldcS (tx := "swap") (k := 3) dX3_statement_46 (fun U hU => hU.2.2.2.2.2.2.2.2.2.2.2.2.1) ?_
        obtain ⟨r8, c7, h⟩ := am_bnd h
        refine am_callVi (as := [.inr (.inr (9100, 3, 0))]) dX3_statement_48 cv_RX3_34 cb_X3_isWord sh_3 rfl hk_3 rfl rfl (Nat.le_of_ble_eq_true rfl) (c_X3_isWord (by decide) c7) ?_
        refine am_if_eq 66 dX3_statement_51 rfl (fun b12 => ?_) (fun b12 => ?_)
        · replace h := am_ifT b12 h
          refine am_iconst dX3_statement_66 ic_0 ?_
          obtain rfl := Option.some.inj h
          exact am_ireturn dX3_statement_67 rfl (am_narZ (by decide)) hp
        · replace h := am_ifF b12 h
          refine am_aload_n dX3_statement_54 rfl ?_
          refine am_aload_n dX3_statement_55 rfl ?_
          obtain ⟨r10, c9, h⟩ := am_bnd h
          refine am_callVi (as := [.inr (.inr (1, o1, 0))]) dX3_statement_56 cv_RX3_53 cb_X3_swapStatement sh_3 rfl hk_3 rfl rfl (Nat.le_of_ble_eq_true rfl) (c_X3_swapStatement c9) ?_
          refine am_if_eq 66 dX3_statement_59 rfl (fun b11 => ?_) (fun b11 => ?_)
          · replace h := am_ifT b11 h
            refine am_iconst dX3_statement_66 ic_0 ?_
            obtain rfl := Option.some.inj h
            exact am_ireturn dX3_statement_67 rfl (am_narZ (by decide)) hp
          · replace h := am_ifF b11 h
            refine am_iconst dX3_statement_62 ic_1 ?_
            refine am_goto 67 dX3_statement_63 rfl ?_
            obtain rfl := Option.some.inj h
            exact am_ireturn dX3_statement_67 rfl (am_narZ (by decide)) hp
      · replace h := am_ifF b16 h
        refine am_aload_n dX3_statement_39 rfl ?_
        refine am_aload_n dX3_statement_40 rfl ?_
        obtain ⟨r14, c13, h⟩ := am_bnd h
        refine am_callVi (as := [.inr (.inr (1, o1, 0))]) dX3_statement_41 cv_RX3_48 cb_X3_readStatement sh_3 rfl hk_3 rfl rfl (Nat.le_of_ble_eq_true rfl) (c_X3_readStatement c13) ?_
        obtain ⟨g15, h⟩ := am_grd h
        obtain rfl := Option.some.inj h
        exact am_ireturn dX3_statement_44 rfl (am_narZ g15) hp
    · replace h := am_ifF b20 h
      refine am_aload_n dX3_statement_24 rfl ?_
      refine am_aload_n dX3_statement_25 rfl ?_
      obtain ⟨r18, c17, h⟩ := am_bnd h
      refine am_callVi (as := [.inr (.inr (1, o1, 0))]) dX3_statement_26 cv_RX3_43 cb_X3_factStatement sh_3 rfl hk_3 rfl rfl (Nat.le_of_ble_eq_true rfl) (c_X3_factStatement c17) ?_
      obtain ⟨g19, h⟩ := am_grd h
      obtain rfl := Option.some.inj h
      exact am_ireturn dX3_statement_29 rfl (am_narZ g19) hp
  · replace h := am_ifF b24 h
    refine am_aload_n dX3_statement_9 rfl ?_
    refine am_aload_n dX3_statement_10 rfl ?_
    obtain ⟨r22, c21, h⟩ := am_bnd h
    refine am_callVi (as := [.inr (.inr (1, o1, 0))]) dX3_statement_11 cv_RX3_38 cb_X3_heapStatement sh_3 rfl hk_3 rfl rfl (Nat.le_of_ble_eq_true rfl) (c_X3_heapStatement c21) ?_
    obtain ⟨g23, h⟩ := am_grd h
    obtain rfl := Option.some.inj h
    exact am_ireturn dX3_statement_14 rfl (am_narZ g23) hp
theorem c_X3_statement {K : am_K} {d : Nat} {M : am_M} {o1 : Nat} {y : Int32 × am_M} (h : f_X3_statement M o1 = some y) : am_Met K (d + 6) m_X3_statement [.inr (.inr (3, 0, 0)), .inr (.inr (1, o1, 0))] M (fun q N => q = some (.inl y.1) ∧ N = y.2) :=
  am_Met_of cb_X3_statement (Nat.le_of_ble_eq_true rfl) (w_X3_statement h ⟨rfl, rfl⟩)
def l_X3_readInto_7 (o1a : Nat) : Nat → Int32 → am_M → Option (Int32 × am_M)
  | 0, _, _ => none
  | n + 1, a2, M => (if (250 : Int32) < a2 then some ((-1 : Int32), M) else (f_X3_nextToken M).bind (fun r3 => (f_X3_statement r3 o1a).bind (fun r5 => (if r5.1 = 0 then some ((-1 : Int32), r5.2) else (f_X3_nextToken r5.2).bind (fun r7 => (if (r7.1 3 0 0 4) = 0 then some (a2, r7) else (if (r7.1 3 0 0 4) = (3 : Int32) then am_let (a2 + (1 : Int32)) (fun v8 => l_X3_readInto_7 o1a n v8 r7) else some ((-1 : Int32), r7))))))))
set_option maxHeartbeats 4000000 in
theorem wl_X3_readInto_7 {K : am_K} {d : Nat} {post : Option am_V → am_M → Prop} {o1a : Nat} : ∀ (n : Nat) (a2 : Int32) (M : am_M) (y : Int32 × am_M), l_X3_readInto_7 o1a n a2 M = some y → post (some (.inl y.1)) y.2 → am_W K (d + 7) m_X3_readInto 7 [(0, .inr (.inr (3, 0, 0))), (1, .inr (.inr (1, o1a, 0))), (2, .inl a2)] [] M post := by
  intro n
  induction n with
  | zero => intro a2 M y h hp; cases h
  | succ n ih =>
    intro a2 M y h hp
    rw [l_X3_readInto_7] at h
    refine am_iload_n dX3_readInto_7 rfl ?_
    refine am_sipush dX3_readInto_8 sp_250 ?_
    refine am_icmp_gt 57 dX3_readInto_11 rfl (fun b12 => ?_) (fun b12 => ?_)
    · replace h := am_ifT b12 h
      refine am_iconst dX3_readInto_57 ic_m1 ?_
      obtain rfl := Option.some.inj h
      exact am_ireturn dX3_readInto_58 rfl rfl hp
    · replace h := am_ifF b12 h
      refine am_aload_n dX3_readInto_14 rfl ?_
      obtain ⟨r3, c2, h⟩ := am_bnd h
      refine am_callVv (as := []) dX3_readInto_15 cv_RX3_22 cb_X3_nextToken sh_3 rfl hk_3 rfl rfl (Nat.le_of_ble_eq_true rfl) (c_X3_nextToken c2) ?_
      refine am_aload_n dX3_readInto_18 rfl ?_
      refine am_aload_n dX3_readInto_19 rfl ?_
      obtain ⟨r5, c4, h⟩ := am_bnd h
      refine am_callVi (as := [.inr (.inr (1, o1a, 0))]) dX3_readInto_20 cv_RX3_25 cb_X3_statement sh_3 rfl hk_3 rfl rfl (Nat.le_of_ble_eq_true rfl) (c_X3_statement c4) ?_
      refine am_if_ne 28 dX3_readInto_23 rfl (fun b11 => ?_) (fun b11 => ?_)
      · replace h := am_ifF b11 h
        refine am_aload_n dX3_readInto_28 rfl ?_
        obtain ⟨r7, c6, h⟩ := am_bnd h
        refine am_callVv (as := []) dX3_readInto_29 cv_RX3_22 cb_X3_nextToken sh_3 rfl hk_3 rfl rfl (Nat.le_of_ble_eq_true rfl) (c_X3_nextToken c6) ?_
        refine am_aload_n dX3_readInto_32 rfl ?_
        refine am_getI dX3_readInto_33 fl_RX3_29 sh_3 rfl hk_3 ?_
        refine am_if_ne 41 dX3_readInto_36 rfl (fun b10 => ?_) (fun b10 => ?_)
        · replace h := am_ifF b10 h
          refine am_aload_n dX3_readInto_41 rfl ?_
          refine am_getI dX3_readInto_42 fl_RX3_29 sh_3 rfl hk_3 ?_
          refine am_iconst dX3_readInto_45 ic_3 ?_
          refine am_icmp_eq 51 dX3_readInto_46 rfl (fun b9 => ?_) (fun b9 => ?_)
          · replace h := am_ifT b9 h
            obtain ⟨v8, ev8, h⟩ := am_letE h
            refine am_iinc (ls' := [(0, .inr (.inr (3, 0, 0))), (1, .inr (.inr (1, o1a, 0))), (2, .inl v8)]) dX3_readInto_51 rfl ((congrArg (fun z => a2 + z) ic_1).trans ev8.symm) (Nat.le_of_ble_eq_true rfl) rfl ?_
            refine am_goto 7 dX3_readInto_54 rfl ?_
            exact am_drop [0, 1, 2] rfl (ih _ _ _ h hp)
          · replace h := am_ifF b9 h
            refine am_iconst dX3_readInto_49 ic_m1 ?_
            obtain rfl := Option.some.inj h
            exact am_ireturn dX3_readInto_50 rfl rfl hp
        · replace h := am_ifT b10 h
          refine am_iload_n dX3_readInto_39 rfl ?_
          obtain rfl := Option.some.inj h
          exact am_ireturn dX3_readInto_40 rfl rfl hp
      · replace h := am_ifT b11 h
        refine am_iconst dX3_readInto_26 ic_m1 ?_
        obtain rfl := Option.some.inj h
        exact am_ireturn dX3_readInto_27 rfl rfl hp
def f_X3_readInto (M : am_M) (o1 : Nat) : Option (Int32 × am_M) :=
  am_let (am_si M 3 0 0 3 (0 : Int32)) (fun M1 => l_X3_readInto_7 o1 1000 (1 : Int32) M1)
set_option maxHeartbeats 4000000 in
theorem w_X3_readInto {K : am_K} {d : Nat} {post : Option am_V → am_M → Prop} {M : am_M} {o1 : Nat} {y : Int32 × am_M} (h : f_X3_readInto M o1 = some y) (hp : post (some (.inl y.1)) y.2) : am_W K (d + 7) m_X3_readInto 0 [(0, .inr (.inr (3, 0, 0))), (1, .inr (.inr (1, o1, 0)))] [] M post := by
  unfold f_X3_readInto at h
  refine am_aload_n dX3_readInto_0 rfl ?_
  refine am_iconst dX3_readInto_1 ic_0 ?_
  obtain ⟨M1, eM1, h⟩ := am_letE h
  refine am_putI dX3_readInto_2 fl_RX3_19 fp_X3_3 sh_3 rfl rfl rfl hk_3 ?_
  refine am_mem eM1 ?_
  refine am_iconst dX3_readInto_5 ic_1 ?_
  refine am_istore_n (ls' := [(0, .inr (.inr (3, 0, 0))), (1, .inr (.inr (1, o1, 0))), (2, .inl (1 : Int32))]) dX3_readInto_6 (Nat.le_of_ble_eq_true rfl) rfl ?_
  exact am_drop [0, 1, 2] rfl (wl_X3_readInto_7 _ _ _ _ h hp)
theorem c_X3_readInto {K : am_K} {d : Nat} {M : am_M} {o1 : Nat} {y : Int32 × am_M} (h : f_X3_readInto M o1 = some y) : am_Met K (d + 7) m_X3_readInto [.inr (.inr (3, 0, 0)), .inr (.inr (1, o1, 0))] M (fun q N => q = some (.inl y.1) ∧ N = y.2) :=
  am_Met_of cb_X3_readInto (Nat.le_of_ble_eq_true rfl) (w_X3_readInto h ⟨rfl, rfl⟩)
def f_X4_drum (M : am_M)  : Option (Int32 × am_M) :=
  (f_X1_takeOver M 2 0).bind (fun r2 => (f_X3_readInto r2 0).bind (fun r4 => am_let r4.1 (fun v5 => am_let (am_si r4.2 3 0 0 0 (0 : Int32)) (fun M6 => (if v5 = (-1 : Int32) then (f_X1_takeOver M6 0 2).bind (fun r8 => (f_X4_refuse r8 (-2 : Int32)).bind (fun r10 => some ((-20 : Int32) - (r10.2.1 3 0 0 1), r10.2))) else some (v5, M6))))))
set_option maxHeartbeats 4000000 in
theorem w_X4_drum {K : am_K} {d : Nat} {post : Option am_V → am_M → Prop} {M : am_M}  {y : Int32 × am_M} (h : f_X4_drum M  = some y) (hp : post (some (.inl y.1)) y.2) : am_W K (d + 8) m_X4_drum 0 [(0, .inr (.inr (4, 0, 0)))] [] M post := by
  unfold f_X4_drum at h
  refine am_aload_n dX4_drum_0 rfl ?_
  refine am_getR (o' := 2) dX4_drum_1 fl_RX4_19 sh_4 rfl rfl hk_4 ?_
  refine am_aload_n dX4_drum_4 rfl ?_
  refine am_getR (o' := 0) dX4_drum_5 fl_RX4_12 sh_4 rfl rfl hk_4 ?_
  obtain ⟨r2, c1, h⟩ := am_bnd h
  refine am_callVv (as := [.inr (.inr (1, 0, 0))]) dX4_drum_8 cv_RX4_151 cb_X1_takeOver sh_1 rfl hk_1 rfl rfl (Nat.le_of_ble_eq_true rfl) (c_X1_takeOver c1) ?_
  refine am_aload_n dX4_drum_11 rfl ?_
  refine am_getR (o' := 0) dX4_drum_12 fl_RX4_32 sh_4 rfl rfl hk_4 ?_
  refine am_aload_n dX4_drum_15 rfl ?_
  refine am_getR (o' := 0) dX4_drum_16 fl_RX4_12 sh_4 rfl rfl hk_4 ?_
  obtain ⟨r4, c3, h⟩ := am_bnd h
  refine am_callVi (as := [.inr (.inr (1, 0, 0))]) dX4_drum_19 cv_RX4_155 cb_X3_readInto sh_3 rfl hk_3 rfl rfl (Nat.le_of_ble_eq_true rfl) (c_X3_readInto c3) ?_
  obtain ⟨v5, ev5, h⟩ := am_letE h
  refine am_topI ev5 ?_
  refine am_istore_n (ls' := [(0, .inr (.inr (4, 0, 0))), (1, .inl v5)]) dX4_drum_22 (Nat.le_of_ble_eq_true rfl) rfl ?_
  refine am_aload_n dX4_drum_23 rfl ?_
  refine am_getR (o' := 0) dX4_drum_24 fl_RX4_32 sh_4 rfl rfl hk_4 ?_
  refine am_iconst dX4_drum_27 ic_0 ?_
  obtain ⟨M6, eM6, h⟩ := am_letE h
  refine am_putI dX4_drum_28 fl_RX4_145 fp_X3_0 sh_3 rfl rfl rfl hk_3 ?_
  refine am_mem eM6 ?_
  refine am_iload_n dX4_drum_31 rfl ?_
  refine am_iconst dX4_drum_32 ic_m1 ?_
  refine am_icmp_ne 65 dX4_drum_33 rfl (fun b11 => ?_) (fun b11 => ?_)
  · replace h := am_ifF b11 h
    refine am_iload_n dX4_drum_65 rfl ?_
    obtain rfl := Option.some.inj h
    exact am_ireturn dX4_drum_66 rfl rfl hp
  · replace h := am_ifT b11 h
    refine am_aload_n dX4_drum_36 rfl ?_
    refine am_getR (o' := 0) dX4_drum_37 fl_RX4_12 sh_4 rfl rfl hk_4 ?_
    refine am_aload_n dX4_drum_40 rfl ?_
    refine am_getR (o' := 2) dX4_drum_41 fl_RX4_19 sh_4 rfl rfl hk_4 ?_
    obtain ⟨r8, c7, h⟩ := am_bnd h
    refine am_callVv (as := [.inr (.inr (1, 2, 0))]) dX4_drum_44 cv_RX4_151 cb_X1_takeOver sh_1 rfl hk_1 rfl rfl (Nat.le_of_ble_eq_true rfl) (c_X1_takeOver c7) ?_
    refine am_aload_n dX4_drum_47 rfl ?_
    refine am_bipush dX4_drum_48 bp_m2 ?_
    obtain ⟨r10, c9, h⟩ := am_bnd h
    refine am_callVi (as := [.inl (-2 : Int32)]) dX4_drum_50 cv_RX4_58 cb_X4_refuse sh_4 rfl hk_4 rfl rfl (Nat.le_of_ble_eq_true rfl) (c_X4_refuse c9) ?_
    refine am_pop dX4_drum_53 rfl ?_
    refine am_bipush dX4_drum_54 bp_m20 ?_
    refine am_aload_n dX4_drum_56 rfl ?_
    refine am_getR (o' := 0) dX4_drum_57 fl_RX4_32 sh_4 rfl rfl hk_4 ?_
    refine am_getI dX4_drum_60 fl_RX4_159 sh_3 rfl hk_3 ?_
    refine am_isub dX4_drum_63 ?_
    obtain rfl := Option.some.inj h
    exact am_ireturn dX4_drum_64 rfl rfl hp
theorem c_X4_drum {K : am_K} {d : Nat} {M : am_M}  {y : Int32 × am_M} (h : f_X4_drum M  = some y) : am_Met K (d + 8) m_X4_drum [.inr (.inr (4, 0, 0))] M (fun q N => q = some (.inl y.1) ∧ N = y.2) :=
  am_Met_of cb_X4_drum (Nat.le_of_ble_eq_true rfl) (w_X4_drum h ⟨rfl, rfl⟩)
def f_X4_fittingNotAbove (M : am_M) (x1 : Int32) : Option (Int32 × am_M) :=
  (f_X0_layFitting M 0).bind (fun r2 => (f_X0_keepNotAbove r2 x1).bind (fun r4 => (f_X0_countRows r4).bind (fun r6 => some (r6.1, r6.2))))
set_option maxHeartbeats 4000000 in
theorem w_X4_fittingNotAbove {K : am_K} {d : Nat} {post : Option am_V → am_M → Prop} {M : am_M} {x1 : Int32} {y : Int32 × am_M} (h : f_X4_fittingNotAbove M x1 = some y) (hp : post (some (.inl y.1)) y.2) : am_W K (d + 5) m_X4_fittingNotAbove 0 [(0, .inr (.inr (4, 0, 0))), (1, .inl x1)] [] M post := by
  unfold f_X4_fittingNotAbove at h
  refine am_aload_n dX4_fittingNotAbove_0 rfl ?_
  refine am_getR (o' := 0) dX4_fittingNotAbove_1 fl_RX4_25 sh_4 rfl rfl hk_4 ?_
  refine am_aload_n dX4_fittingNotAbove_4 rfl ?_
  refine am_getR (o' := 0) dX4_fittingNotAbove_5 fl_RX4_12 sh_4 rfl rfl hk_4 ?_
  obtain ⟨r2, c1, h⟩ := am_bnd h
  refine am_callVv (as := [.inr (.inr (1, 0, 0))]) dX4_fittingNotAbove_8 cv_RX4_209 cb_X0_layFitting sh_0 rfl hk_0 rfl rfl (Nat.le_of_ble_eq_true rfl) (c_X0_layFitting c1) ?_
  refine am_aload_n dX4_fittingNotAbove_11 rfl ?_
  refine am_getR (o' := 0) dX4_fittingNotAbove_12 fl_RX4_25 sh_4 rfl rfl hk_4 ?_
  refine am_iload_n dX4_fittingNotAbove_15 rfl ?_
  obtain ⟨r4, c3, h⟩ := am_bnd h
  refine am_callVv (as := [.inl x1]) dX4_fittingNotAbove_16 cv_RX4_349 cb_X0_keepNotAbove sh_0 rfl hk_0 rfl rfl (Nat.le_of_ble_eq_true rfl) (c_X0_keepNotAbove c3) ?_
  refine am_aload_n dX4_fittingNotAbove_19 rfl ?_
  refine am_getR (o' := 0) dX4_fittingNotAbove_20 fl_RX4_25 sh_4 rfl rfl hk_4 ?_
  obtain ⟨r6, c5, h⟩ := am_bnd h
  refine am_callVi (as := []) dX4_fittingNotAbove_23 cv_RX4_206 cb_X0_countRows sh_0 rfl hk_0 rfl rfl (Nat.le_of_ble_eq_true rfl) (c_X0_countRows c5) ?_
  obtain rfl := Option.some.inj h
  exact am_ireturn dX4_fittingNotAbove_26 rfl rfl hp
theorem c_X4_fittingNotAbove {K : am_K} {d : Nat} {M : am_M} {x1 : Int32} {y : Int32 × am_M} (h : f_X4_fittingNotAbove M x1 = some y) : am_Met K (d + 5) m_X4_fittingNotAbove [.inr (.inr (4, 0, 0)), .inl x1] M (fun q N => q = some (.inl y.1) ∧ N = y.2) :=
  am_Met_of cb_X4_fittingNotAbove (Nat.le_of_ble_eq_true rfl) (w_X4_fittingNotAbove h ⟨rfl, rfl⟩)
def f_X4_greatest (M : am_M) (x1 : Int32) : Option (Int32 × am_M) :=
  (f_X4_isWithin M x1 (24 : Int32)).bind (fun r2 => (if r2 = 0 then (f_X4_refuse M (-2 : Int32)).bind (fun r8 => some (r8.1, r8.2)) else (f_X4_fittingNotAbove M x1).bind (fun r4 => (f_X4_fittingNotAbove r4.2 (x1 - (1 : Int32))).bind (fun r6 => some (r4.1 - r6.1, r6.2)))))
set_option maxHeartbeats 4000000 in
theorem w_X4_greatest {K : am_K} {d : Nat} {post : Option am_V → am_M → Prop} {M : am_M} {x1 : Int32} {y : Int32 × am_M} (h : f_X4_greatest M x1 = some y) (hp : post (some (.inl y.1)) y.2) : am_W K (d + 6) m_X4_greatest 0 [(0, .inr (.inr (4, 0, 0))), (1, .inl x1)] [] M post := by
  unfold f_X4_greatest at h
  refine am_iload_n dX4_greatest_0 rfl ?_
  refine am_bipush dX4_greatest_1 bp_24 ?_
  obtain ⟨r2, c1, h⟩ := am_bnd h
  refine am_callSi (as := [.inl x1, .inl (24 : Int32)]) dX4_greatest_3 cs_RX4_54 cb_X4_isWithin rfl rfl (Nat.le_of_ble_eq_true rfl) (c_X4_isWithin c1) ?_
  refine am_if_ne 16 dX4_greatest_6 rfl (fun b9 => ?_) (fun b9 => ?_)
  · replace h := am_ifF b9 h
    refine am_aload_n dX4_greatest_16 rfl ?_
    refine am_iload_n dX4_greatest_17 rfl ?_
    obtain ⟨r4, c3, h⟩ := am_bnd h
    refine am_callVi (as := [.inl x1]) dX4_greatest_18 cv_RX4_234 cb_X4_fittingNotAbove sh_4 rfl hk_4 rfl rfl (Nat.le_of_ble_eq_true rfl) (c_X4_fittingNotAbove c3) ?_
    refine am_aload_n dX4_greatest_21 rfl ?_
    refine am_iload_n dX4_greatest_22 rfl ?_
    refine am_iconst dX4_greatest_23 ic_1 ?_
    refine am_isub dX4_greatest_24 ?_
    obtain ⟨r6, c5, h⟩ := am_bnd h
    refine am_callVi (as := [.inl (x1 - (1 : Int32))]) dX4_greatest_25 cv_RX4_234 cb_X4_fittingNotAbove sh_4 rfl hk_4 rfl rfl (Nat.le_of_ble_eq_true rfl) (c_X4_fittingNotAbove c5) ?_
    refine am_isub dX4_greatest_28 ?_
    obtain rfl := Option.some.inj h
    exact am_ireturn dX4_greatest_29 rfl rfl hp
  · replace h := am_ifT b9 h
    refine am_aload_n dX4_greatest_9 rfl ?_
    refine am_bipush dX4_greatest_10 bp_m2 ?_
    obtain ⟨r8, c7, h⟩ := am_bnd h
    refine am_callVi (as := [.inl (-2 : Int32)]) dX4_greatest_12 cv_RX4_58 cb_X4_refuse sh_4 rfl hk_4 rfl rfl (Nat.le_of_ble_eq_true rfl) (c_X4_refuse c7) ?_
    obtain rfl := Option.some.inj h
    exact am_ireturn dX4_greatest_15 rfl rfl hp
theorem c_X4_greatest {K : am_K} {d : Nat} {M : am_M} {x1 : Int32} {y : Int32 × am_M} (h : f_X4_greatest M x1 = some y) : am_Met K (d + 6) m_X4_greatest [.inr (.inr (4, 0, 0)), .inl x1] M (fun q N => q = some (.inl y.1) ∧ N = y.2) :=
  am_Met_of cb_X4_greatest (Nat.le_of_ble_eq_true rfl) (w_X4_greatest h ⟨rfl, rfl⟩)
def l_X5_isWord_28 (M : am_M) (t1 : Nat) (o0a : Nat) : Nat → Int32 → Option (Int32)
  | 0, _ => none
  | n + 1, a2 => (f_J0_length_8abf5 M t1).bind (fun r4 => (if r4 ≤ a2 then some (1 : Int32) else if am_inb ((M.1 5 o0a 0 23) + a2) 250 = true then (f_J0_charAt_5068e M t1 a2).bind (fun r7 => (if (M.1 607 o0a 0 ((M.1 5 o0a 0 23) + a2).toNatClampNeg) = r7 then am_let (a2 + (1 : Int32)) (fun v8 => l_X5_isWord_28 M t1 o0a n v8) else some (0 : Int32))) else none))
set_option maxHeartbeats 4000000 in
theorem wl_X5_isWord_28 {K : am_K} {d : Nat} {post : Option am_V → am_M → Prop} {M : am_M} {t1 : Nat} {o0a : Nat} (ht1 : t1 < 4) : ∀ (n : Nat) (a2 : Int32) (y : Int32), l_X5_isWord_28 M t1 o0a n a2 = some y → post (some (.inl y)) M → am_W K (d + 5) m_X5_isWord 28 [(0, .inr (.inr (5, o0a, 0))), (1, .inr (.inr (9100, t1, 0))), (2, .inl a2)] [] M post := by
  intro n
  induction n with
  | zero => intro a2 y h hp; cases h
  | succ n ih =>
    intro a2 y h hp
    rw [l_X5_isWord_28] at h
    refine am_iload_n dX5_isWord_28 rfl ?_
    refine am_aload_n dX5_isWord_29 rfl ?_
    obtain ⟨r4, c3, h⟩ := am_bnd h
    refine am_callTi (as := []) dX5_isWord_30 cv_RX5_185 cb_J0_length_8abf5 ht1 rfl rfl rfl (Nat.le_of_ble_eq_true rfl) (c_J0_length_8abf5 ht1 c3) ?_
    refine am_icmp_ge 63 dX5_isWord_33 rfl (fun b10 => ?_) (fun b10 => ?_)
    · replace h := am_ifT b10 h
      refine am_iconst dX5_isWord_63 ic_1 ?_
      obtain rfl := Option.some.inj h
      exact am_ireturn dX5_isWord_64 rfl (am_narZ (by decide)) hp
    · replace h := am_ifF b10 h
      refine am_aload_n dX5_isWord_36 rfl ?_
      refine am_getR (o' := o0a) dX5_isWord_37 fl_RX5_34 sh_5 rfl rfl hk_5 ?_
      refine am_aload_n dX5_isWord_40 rfl ?_
      refine am_getI dX5_isWord_41 fl_RX5_165 sh_5 rfl hk_5 ?_
      refine am_iload_n dX5_isWord_44 rfl ?_
      refine am_iadd dX5_isWord_45 ?_
      obtain ⟨g5, h⟩ := am_grd h
      refine am_iaload dX5_isWord_46 sh_607 hk_607 (am_inbE g5) ?_
      refine am_aload_n dX5_isWord_47 rfl ?_
      refine am_iload_n dX5_isWord_48 rfl ?_
      obtain ⟨r7, c6, h⟩ := am_bnd h
      refine am_callTi (as := [.inl a2]) dX5_isWord_49 cv_RX5_190 cb_J0_charAt_5068e ht1 rfl rfl rfl (Nat.le_of_ble_eq_true rfl) (c_J0_charAt_5068e ht1 c6) ?_
      refine am_icmp_eq 57 dX5_isWord_52 rfl (fun b9 => ?_) (fun b9 => ?_)
      · replace h := am_ifT b9 h
        obtain ⟨v8, ev8, h⟩ := am_letE h
        refine am_iinc (ls' := [(0, .inr (.inr (5, o0a, 0))), (1, .inr (.inr (9100, t1, 0))), (2, .inl v8)]) dX5_isWord_57 rfl ((congrArg (fun z => a2 + z) ic_1).trans ev8.symm) (Nat.le_of_ble_eq_true rfl) rfl ?_
        refine am_goto 28 dX5_isWord_60 rfl ?_
        exact am_drop [0, 1, 2] rfl (ih _ _ h hp)
      · replace h := am_ifF b9 h
        refine am_iconst dX5_isWord_55 ic_0 ?_
        obtain rfl := Option.some.inj h
        exact am_ireturn dX5_isWord_56 rfl (am_narZ (by decide)) hp
def f_X5_isWord (M : am_M) (o : Nat) (t1 : Nat) : Option (Int32) :=
  (if (M.1 5 o 0 22) = (1 : Int32) then (f_J0_length_8abf5 M t1).bind (fun r2 => (if ((M.1 5 o 0 21) - (M.1 5 o 0 23)) = r2 then l_X5_isWord_28 M t1 o 1000 (0 : Int32) else some (0 : Int32))) else some (0 : Int32))
set_option maxHeartbeats 4000000 in
theorem w_X5_isWord {K : am_K} {d : Nat} {post : Option am_V → am_M → Prop} {M : am_M} {o : Nat} {t1 : Nat} (ht1 : t1 < 4) {y : Int32} (h : f_X5_isWord M o t1 = some y) (hp : post (some (.inl y)) M) : am_W K (d + 5) m_X5_isWord 0 [(0, .inr (.inr (5, o, 0))), (1, .inr (.inr (9100, t1, 0)))] [] M post := by
  unfold f_X5_isWord at h
  refine am_aload_n dX5_isWord_0 rfl ?_
  refine am_getI dX5_isWord_1 fl_RX5_171 sh_5 rfl hk_5 ?_
  refine am_iconst dX5_isWord_4 ic_1 ?_
  refine am_icmp_ne 24 dX5_isWord_5 rfl (fun b12 => ?_) (fun b12 => ?_)
  · replace h := am_ifF b12 h
    refine am_iconst dX5_isWord_24 ic_0 ?_
    obtain rfl := Option.some.inj h
    exact am_ireturn dX5_isWord_25 rfl (am_narZ (by decide)) hp
  · replace h := am_ifT b12 h
    refine am_aload_n dX5_isWord_8 rfl ?_
    refine am_getI dX5_isWord_9 fl_RX5_162 sh_5 rfl hk_5 ?_
    refine am_aload_n dX5_isWord_12 rfl ?_
    refine am_getI dX5_isWord_13 fl_RX5_165 sh_5 rfl hk_5 ?_
    refine am_isub dX5_isWord_16 ?_
    refine am_aload_n dX5_isWord_17 rfl ?_
    obtain ⟨r2, c1, h⟩ := am_bnd h
    refine am_callTi (as := []) dX5_isWord_18 cv_RX5_185 cb_J0_length_8abf5 ht1 rfl rfl rfl (Nat.le_of_ble_eq_true rfl) (c_J0_length_8abf5 ht1 c1) ?_
    refine am_icmp_eq 26 dX5_isWord_21 rfl (fun b11 => ?_) (fun b11 => ?_)
    · replace h := am_ifT b11 h
      refine am_iconst dX5_isWord_26 ic_0 ?_
      refine am_istore_n (ls' := [(0, .inr (.inr (5, o, 0))), (1, .inr (.inr (9100, t1, 0))), (2, .inl (0 : Int32))]) dX5_isWord_27 (Nat.le_of_ble_eq_true rfl) rfl ?_
      exact am_drop [0, 1, 2] rfl (wl_X5_isWord_28 ht1 _ _ _ h hp)
    · replace h := am_ifF b11 h
      refine am_iconst dX5_isWord_24 ic_0 ?_
      obtain rfl := Option.some.inj h
      exact am_ireturn dX5_isWord_25 rfl (am_narZ (by decide)) hp
theorem c_X5_isWord {K : am_K} {d : Nat} {M : am_M} {o : Nat} {t1 : Nat} (ht1 : t1 < 4) {y : Int32} (h : f_X5_isWord M o t1 = some y) : am_Met K (d + 5) m_X5_isWord [.inr (.inr (5, o, 0)), .inr (.inr (9100, t1, 0))] M (fun q N => q = some (.inl y) ∧ N = M) :=
  am_Met_of cb_X5_isWord (Nat.le_of_ble_eq_true rfl) (w_X5_isWord ht1 h ⟨rfl, rfl⟩)
def f_X5_statement (M : am_M) (o : Nat) : Option (Int32 × am_M) :=
  (f_X5_isWord M o 0).bind (fun r2 => (if r2 = 0 then (f_X5_isWord M o 3).bind (fun r4 => (if r4 = 0 then (f_X5_isWord M o 2).bind (fun r6 => (if r6 = 0 then (f_X5_isWord M o 1).bind (fun r8 => (if r8 = 0 then (f_X5_wrong M o).bind (fun r10 => if (r10.1 = 0 ∨ r10.1 = 1) then some (r10.1, r10.2) else none) else (if (M.1 5 o 0 14) = (4 : Int32) then (f_X5_wrong M o).bind (fun r24 => if (r24.1 = 0 ∨ r24.1 = 1) then some (r24.1, r24.2) else none) else (f_X5_tells M o (0 : Int32) (3 : Int32)).bind (fun r13 => (if r13.1 = 0 then some ((0 : Int32), r13.2) else (f_X5_number r13.2 o (1 : Int32) (0 : Int32) (24 : Int32)).bind (fun r15 => (if r15.1 = 0 then some ((0 : Int32), r15.2) else (f_X5_number r15.2 o (2 : Int32) (0 : Int32) (24 : Int32)).bind (fun r17 => (if r17.1 = 0 then some ((0 : Int32), r17.2) else (f_X5_fact r17.2 o (r17.2.1 626 o 0 (0 : Int32).toNatClampNeg) (r17.2.1 626 o 0 (1 : Int32).toNatClampNeg) (r17.2.1 626 o 0 (2 : Int32).toNatClampNeg)).bind (fun r19 => some ((1 : Int32), r19.2))))))))))) else (f_X5_readTold M o).bind (fun r29 => if (r29.1 = 0 ∨ r29.1 = 1) then some (r29.1, r29.2) else none))) else (if (M.1 5 o 0 16) = 0 then (f_X5_swapTold M o).bind (fun r60 => if (r60.1 = 0 ∨ r60.1 = 1) then some (r60.1, r60.2) else none) else (f_X5_isWord M o 2).bind (fun r33 => (if r33 = 0 then (f_X5_isWord M o 1).bind (fun r35 => (if r35 = 0 then (f_X5_wrong M o).bind (fun r37 => if (r37.1 = 0 ∨ r37.1 = 1) then some (r37.1, r37.2) else none) else (if (M.1 5 o 0 14) = (4 : Int32) then (f_X5_wrong M o).bind (fun r51 => if (r51.1 = 0 ∨ r51.1 = 1) then some (r51.1, r51.2) else none) else (f_X5_tells M o (0 : Int32) (3 : Int32)).bind (fun r40 => (if r40.1 = 0 then some ((0 : Int32), r40.2) else (f_X5_number r40.2 o (1 : Int32) (0 : Int32) (24 : Int32)).bind (fun r42 => (if r42.1 = 0 then some ((0 : Int32), r42.2) else (f_X5_number r42.2 o (2 : Int32) (0 : Int32) (24 : Int32)).bind (fun r44 => (if r44.1 = 0 then some ((0 : Int32), r44.2) else (f_X5_fact r44.2 o (r44.2.1 626 o 0 (0 : Int32).toNatClampNeg) (r44.2.1 626 o 0 (1 : Int32).toNatClampNeg) (r44.2.1 626 o 0 (2 : Int32).toNatClampNeg)).bind (fun r46 => some ((1 : Int32), r46.2))))))))))) else (f_X5_readTold M o).bind (fun r56 => if (r56.1 = 0 ∨ r56.1 = 1) then some (r56.1, r56.2) else none)))))) else (if (M.1 5 o 0 16) = 0 then (if (4 : Int32) ≤ (M.1 5 o 0 10) then (f_X5_isWord M o 3).bind (fun r126 => (if r126 = 0 then (f_X5_isWord M o 2).bind (fun r128 => (if r128 = 0 then (f_X5_isWord M o 1).bind (fun r130 => (if r130 = 0 then (f_X5_wrong M o).bind (fun r132 => if (r132.1 = 0 ∨ r132.1 = 1) then some (r132.1, r132.2) else none) else (if (M.1 5 o 0 14) = (4 : Int32) then (f_X5_wrong M o).bind (fun r146 => if (r146.1 = 0 ∨ r146.1 = 1) then some (r146.1, r146.2) else none) else (f_X5_tells M o (0 : Int32) (3 : Int32)).bind (fun r135 => (if r135.1 = 0 then some ((0 : Int32), r135.2) else (f_X5_number r135.2 o (1 : Int32) (0 : Int32) (24 : Int32)).bind (fun r137 => (if r137.1 = 0 then some ((0 : Int32), r137.2) else (f_X5_number r137.2 o (2 : Int32) (0 : Int32) (24 : Int32)).bind (fun r139 => (if r139.1 = 0 then some ((0 : Int32), r139.2) else (f_X5_fact r139.2 o (r139.2.1 626 o 0 (0 : Int32).toNatClampNeg) (r139.2.1 626 o 0 (1 : Int32).toNatClampNeg) (r139.2.1 626 o 0 (2 : Int32).toNatClampNeg)).bind (fun r141 => some ((1 : Int32), r141.2))))))))))) else (f_X5_readTold M o).bind (fun r151 => if (r151.1 = 0 ∨ r151.1 = 1) then some (r151.1, r151.2) else none))) else (if (M.1 5 o 0 16) = 0 then (f_X5_swapTold M o).bind (fun r182 => if (r182.1 = 0 ∨ r182.1 = 1) then some (r182.1, r182.2) else none) else (f_X5_isWord M o 2).bind (fun r155 => (if r155 = 0 then (f_X5_isWord M o 1).bind (fun r157 => (if r157 = 0 then (f_X5_wrong M o).bind (fun r159 => if (r159.1 = 0 ∨ r159.1 = 1) then some (r159.1, r159.2) else none) else (if (M.1 5 o 0 14) = (4 : Int32) then (f_X5_wrong M o).bind (fun r173 => if (r173.1 = 0 ∨ r173.1 = 1) then some (r173.1, r173.2) else none) else (f_X5_tells M o (0 : Int32) (3 : Int32)).bind (fun r162 => (if r162.1 = 0 then some ((0 : Int32), r162.2) else (f_X5_number r162.2 o (1 : Int32) (0 : Int32) (24 : Int32)).bind (fun r164 => (if r164.1 = 0 then some ((0 : Int32), r164.2) else (f_X5_number r164.2 o (2 : Int32) (0 : Int32) (24 : Int32)).bind (fun r166 => (if r166.1 = 0 then some ((0 : Int32), r166.2) else (f_X5_fact r166.2 o (r166.2.1 626 o 0 (0 : Int32).toNatClampNeg) (r166.2.1 626 o 0 (1 : Int32).toNatClampNeg) (r166.2.1 626 o 0 (2 : Int32).toNatClampNeg)).bind (fun r168 => some ((1 : Int32), r168.2))))))))))) else (f_X5_readTold M o).bind (fun r178 => if (r178.1 = 0 ∨ r178.1 = 1) then some (r178.1, r178.2) else none)))))) else (f_X5_heapTold M o).bind (fun r187 => if (r187.1 = 0 ∨ r187.1 = 1) then some (r187.1, r187.2) else none)) else (f_X5_isWord M o 3).bind (fun r65 => (if r65 = 0 then (f_X5_isWord M o 2).bind (fun r67 => (if r67 = 0 then (f_X5_isWord M o 1).bind (fun r69 => (if r69 = 0 then (f_X5_wrong M o).bind (fun r71 => if (r71.1 = 0 ∨ r71.1 = 1) then some (r71.1, r71.2) else none) else (if (M.1 5 o 0 14) = (4 : Int32) then (f_X5_wrong M o).bind (fun r85 => if (r85.1 = 0 ∨ r85.1 = 1) then some (r85.1, r85.2) else none) else (f_X5_tells M o (0 : Int32) (3 : Int32)).bind (fun r74 => (if r74.1 = 0 then some ((0 : Int32), r74.2) else (f_X5_number r74.2 o (1 : Int32) (0 : Int32) (24 : Int32)).bind (fun r76 => (if r76.1 = 0 then some ((0 : Int32), r76.2) else (f_X5_number r76.2 o (2 : Int32) (0 : Int32) (24 : Int32)).bind (fun r78 => (if r78.1 = 0 then some ((0 : Int32), r78.2) else (f_X5_fact r78.2 o (r78.2.1 626 o 0 (0 : Int32).toNatClampNeg) (r78.2.1 626 o 0 (1 : Int32).toNatClampNeg) (r78.2.1 626 o 0 (2 : Int32).toNatClampNeg)).bind (fun r80 => some ((1 : Int32), r80.2))))))))))) else (f_X5_readTold M o).bind (fun r90 => if (r90.1 = 0 ∨ r90.1 = 1) then some (r90.1, r90.2) else none))) else (if (M.1 5 o 0 16) = 0 then (f_X5_swapTold M o).bind (fun r121 => if (r121.1 = 0 ∨ r121.1 = 1) then some (r121.1, r121.2) else none) else (f_X5_isWord M o 2).bind (fun r94 => (if r94 = 0 then (f_X5_isWord M o 1).bind (fun r96 => (if r96 = 0 then (f_X5_wrong M o).bind (fun r98 => if (r98.1 = 0 ∨ r98.1 = 1) then some (r98.1, r98.2) else none) else (if (M.1 5 o 0 14) = (4 : Int32) then (f_X5_wrong M o).bind (fun r112 => if (r112.1 = 0 ∨ r112.1 = 1) then some (r112.1, r112.2) else none) else (f_X5_tells M o (0 : Int32) (3 : Int32)).bind (fun r101 => (if r101.1 = 0 then some ((0 : Int32), r101.2) else (f_X5_number r101.2 o (1 : Int32) (0 : Int32) (24 : Int32)).bind (fun r103 => (if r103.1 = 0 then some ((0 : Int32), r103.2) else (f_X5_number r103.2 o (2 : Int32) (0 : Int32) (24 : Int32)).bind (fun r105 => (if r105.1 = 0 then some ((0 : Int32), r105.2) else (f_X5_fact r105.2 o (r105.2.1 626 o 0 (0 : Int32).toNatClampNeg) (r105.2.1 626 o 0 (1 : Int32).toNatClampNeg) (r105.2.1 626 o 0 (2 : Int32).toNatClampNeg)).bind (fun r107 => some ((1 : Int32), r107.2))))))))))) else (f_X5_readTold M o).bind (fun r117 => if (r117.1 = 0 ∨ r117.1 = 1) then some (r117.1, r117.2) else none)))))))))
set_option maxHeartbeats 4000000 in
theorem w_X5_statement {K : am_K} {d : Nat} {post : Option am_V → am_M → Prop} {M : am_M} {o : Nat} {y : Int32 × am_M} (h : f_X5_statement M o = some y) (hp : post (some (.inl y.1)) y.2) : am_W K (d + 6) m_X5_statement 0 [(0, .inr (.inr (5, o, 0)))] [] M post := by
  unfold f_X5_statement at h
  refine am_aload_n dX5_statement_0 rfl ?_
  refine am_ldcS (tx := "heap") (k := 0) dX5_statement_1 (fun U hU => hU.2.2.2.2.2.2.2.2.2.2.2.2.2.1) ?_
  obtain ⟨r2, c1, h⟩ := am_bnd h
  refine am_callVi (as := [.inr (.inr (9100, 0, 0))]) dX5_statement_3 cv_RX5_214 cb_X5_isWord sh_5 rfl hk_5 rfl rfl (Nat.le_of_ble_eq_true rfl) (c_X5_isWord (by decide) c1) ?_
  refine am_if_eq 29 dX5_statement_6 rfl (fun b191 => ?_) (fun b191 => ?_)
  · replace h := am_ifT b191 h
    refine am_aload_n dX5_statement_29 rfl ?_
    refine am_ldcS (tx := "swap") (k := 3) dX5_statement_30 (fun U hU => hU.2.2.2.2.2.2.2.2.2.2.2.2.2.2.2.2) ?_
    obtain ⟨r4, c3, h⟩ := am_bnd h
    refine am_callVi (as := [.inr (.inr (9100, 3, 0))]) dX5_statement_32 cv_RX5_214 cb_X5_isWord sh_5 rfl hk_5 rfl rfl (Nat.le_of_ble_eq_true rfl) (c_X5_isWord (by decide) c3) ?_
    refine am_if_eq 50 dX5_statement_35 rfl (fun b63 => ?_) (fun b63 => ?_)
    · replace h := am_ifT b63 h
      refine am_aload_n dX5_statement_50 rfl ?_
      refine am_ldcS (tx := "read") (k := 2) dX5_statement_51 (fun U hU => hU.2.2.2.2.2.2.2.2.2.2.2.2.2.2.2.1) ?_
      obtain ⟨r6, c5, h⟩ := am_bnd h
      refine am_callVi (as := [.inr (.inr (9100, 2, 0))]) dX5_statement_53 cv_RX5_214 cb_X5_isWord sh_5 rfl hk_5 rfl rfl (Nat.le_of_ble_eq_true rfl) (c_X5_isWord (by decide) c5) ?_
      refine am_if_eq 64 dX5_statement_56 rfl (fun b31 => ?_) (fun b31 => ?_)
      · replace h := am_ifT b31 h
        refine am_aload_n dX5_statement_64 rfl ?_
        refine am_ldcS (tx := "fact") (k := 1) dX5_statement_65 (fun U hU => hU.2.2.2.2.2.2.2.2.2.2.2.2.2.2.1) ?_
        obtain ⟨r8, c7, h⟩ := am_bnd h
        refine am_callVi (as := [.inr (.inr (9100, 1, 0))]) dX5_statement_67 cv_RX5_214 cb_X5_isWord sh_5 rfl hk_5 rfl rfl (Nat.le_of_ble_eq_true rfl) (c_X5_isWord (by decide) c7) ?_
        refine am_if_eq 81 dX5_statement_70 rfl (fun b27 => ?_) (fun b27 => ?_)
        · replace h := am_ifT b27 h
          refine am_aload_n dX5_statement_81 rfl ?_
          obtain ⟨r10, c9, h⟩ := am_bnd h
          refine am_callVi (as := []) dX5_statement_82 cv_RX5_194 cb_X5_wrong sh_5 rfl hk_5 rfl rfl (Nat.le_of_ble_eq_true rfl) (c_X5_wrong c9) ?_
          obtain ⟨g11, h⟩ := am_grd h
          obtain rfl := Option.some.inj h
          exact am_ireturn dX5_statement_85 rfl (am_narZ g11) hp
        · replace h := am_ifF b27 h
          refine am_aload_n dX5_statement_73 rfl ?_
          refine am_getI dX5_statement_74 fl_RX5_151 sh_5 rfl hk_5 ?_
          refine am_iconst dX5_statement_77 ic_4 ?_
          refine am_icmp_ne 86 dX5_statement_78 rfl (fun b26 => ?_) (fun b26 => ?_)
          · replace h := am_ifF b26 h
            refine am_aload_n dX5_statement_86 rfl ?_
            refine am_iconst dX5_statement_87 ic_0 ?_
            refine am_iconst dX5_statement_88 ic_3 ?_
            obtain ⟨r13, c12, h⟩ := am_bnd h
            refine am_callVi (as := [.inl (0 : Int32), .inl (3 : Int32)]) dX5_statement_89 cv_RX5_205 cb_X5_tells sh_5 rfl hk_5 rfl rfl (Nat.le_of_ble_eq_true rfl) (c_X5_tells c12) ?_
            refine am_if_eq 117 dX5_statement_92 rfl (fun b22 => ?_) (fun b22 => ?_)
            · replace h := am_ifT b22 h
              refine am_iconst dX5_statement_117 ic_0 ?_
              obtain rfl := Option.some.inj h
              exact am_ireturn dX5_statement_118 rfl (am_narZ (by decide)) hp
            · replace h := am_ifF b22 h
              refine am_aload_n dX5_statement_95 rfl ?_
              refine am_iconst dX5_statement_96 ic_1 ?_
              refine am_iconst dX5_statement_97 ic_0 ?_
              refine am_bipush dX5_statement_98 bp_24 ?_
              obtain ⟨r15, c14, h⟩ := am_bnd h
              refine am_callVi (as := [.inl (1 : Int32), .inl (0 : Int32), .inl (24 : Int32)]) dX5_statement_100 cv_RX5_201 cb_X5_number sh_5 rfl hk_5 rfl rfl (Nat.le_of_ble_eq_true rfl) (c_X5_number c14) ?_
              refine am_if_eq 117 dX5_statement_103 rfl (fun b21 => ?_) (fun b21 => ?_)
              · replace h := am_ifT b21 h
                refine am_iconst dX5_statement_117 ic_0 ?_
                obtain rfl := Option.some.inj h
                exact am_ireturn dX5_statement_118 rfl (am_narZ (by decide)) hp
              · replace h := am_ifF b21 h
                refine am_aload_n dX5_statement_106 rfl ?_
                refine am_iconst dX5_statement_107 ic_2 ?_
                refine am_iconst dX5_statement_108 ic_0 ?_
                refine am_bipush dX5_statement_109 bp_24 ?_
                obtain ⟨r17, c16, h⟩ := am_bnd h
                refine am_callVi (as := [.inl (2 : Int32), .inl (0 : Int32), .inl (24 : Int32)]) dX5_statement_111 cv_RX5_201 cb_X5_number sh_5 rfl hk_5 rfl rfl (Nat.le_of_ble_eq_true rfl) (c_X5_number c16) ?_
                refine am_if_ne 119 dX5_statement_114 rfl (fun b20 => ?_) (fun b20 => ?_)
                · replace h := am_ifF b20 h
                  refine am_aload_n dX5_statement_119 rfl ?_
                  refine am_aload_n dX5_statement_120 rfl ?_
                  refine am_getR (o' := o) dX5_statement_121 fl_RX5_61 sh_5 rfl rfl hk_5 ?_
                  refine am_iconst dX5_statement_124 ic_0 ?_
                  refine am_iaload dX5_statement_125 sh_626 hk_626 (am_inbE (by decide)) ?_
                  refine am_aload_n dX5_statement_126 rfl ?_
                  refine am_getR (o' := o) dX5_statement_127 fl_RX5_61 sh_5 rfl rfl hk_5 ?_
                  refine am_iconst dX5_statement_130 ic_1 ?_
                  refine am_iaload dX5_statement_131 sh_626 hk_626 (am_inbE (by decide)) ?_
                  refine am_aload_n dX5_statement_132 rfl ?_
                  refine am_getR (o' := o) dX5_statement_133 fl_RX5_61 sh_5 rfl rfl hk_5 ?_
                  refine am_iconst dX5_statement_136 ic_2 ?_
                  refine am_iaload dX5_statement_137 sh_626 hk_626 (am_inbE (by decide)) ?_
                  obtain ⟨r19, c18, h⟩ := am_bnd h
                  refine am_callVi (as := [.inl (r17.2.1 626 o 0 (0 : Int32).toNatClampNeg), .inl (r17.2.1 626 o 0 (1 : Int32).toNatClampNeg), .inl (r17.2.1 626 o 0 (2 : Int32).toNatClampNeg)]) dX5_statement_138 cv_RX5_232 cb_X5_fact sh_5 rfl hk_5 rfl rfl (Nat.le_of_ble_eq_true rfl) (c_X5_fact c18) ?_
                  refine am_pop dX5_statement_141 rfl ?_
                  refine am_iconst dX5_statement_142 ic_1 ?_
                  obtain rfl := Option.some.inj h
                  exact am_ireturn dX5_statement_143 rfl (am_narZ (by decide)) hp
                · replace h := am_ifT b20 h
                  refine am_iconst dX5_statement_117 ic_0 ?_
                  obtain rfl := Option.some.inj h
                  exact am_ireturn dX5_statement_118 rfl (am_narZ (by decide)) hp
          · replace h := am_ifT b26 h
            refine am_aload_n dX5_statement_81 rfl ?_
            obtain ⟨r24, c23, h⟩ := am_bnd h
            refine am_callVi (as := []) dX5_statement_82 cv_RX5_194 cb_X5_wrong sh_5 rfl hk_5 rfl rfl (Nat.le_of_ble_eq_true rfl) (c_X5_wrong c23) ?_
            obtain ⟨g25, h⟩ := am_grd h
            obtain rfl := Option.some.inj h
            exact am_ireturn dX5_statement_85 rfl (am_narZ g25) hp
      · replace h := am_ifF b31 h
        refine am_aload_n dX5_statement_59 rfl ?_
        obtain ⟨r29, c28, h⟩ := am_bnd h
        refine am_callVi (as := []) dX5_statement_60 cv_RX5_228 cb_X5_readTold sh_5 rfl hk_5 rfl rfl (Nat.le_of_ble_eq_true rfl) (c_X5_readTold c28) ?_
        obtain ⟨g30, h⟩ := am_grd h
        obtain rfl := Option.some.inj h
        exact am_ireturn dX5_statement_63 rfl (am_narZ g30) hp
    · replace h := am_ifF b63 h
      refine am_aload_n dX5_statement_38 rfl ?_
      refine am_getI dX5_statement_39 fl_RX5_137 sh_5 rfl hk_5 ?_
      refine am_if_ne 50 dX5_statement_42 rfl (fun b62 => ?_) (fun b62 => ?_)
      · replace h := am_ifF b62 h
        refine am_aload_n dX5_statement_50 rfl ?_
        refine am_ldcS (tx := "read") (k := 2) dX5_statement_51 (fun U hU => hU.2.2.2.2.2.2.2.2.2.2.2.2.2.2.2.1) ?_
        obtain ⟨r33, c32, h⟩ := am_bnd h
        refine am_callVi (as := [.inr (.inr (9100, 2, 0))]) dX5_statement_53 cv_RX5_214 cb_X5_isWord sh_5 rfl hk_5 rfl rfl (Nat.le_of_ble_eq_true rfl) (c_X5_isWord (by decide) c32) ?_
        refine am_if_eq 64 dX5_statement_56 rfl (fun b58 => ?_) (fun b58 => ?_)
        · replace h := am_ifT b58 h
          refine am_aload_n dX5_statement_64 rfl ?_
          refine am_ldcS (tx := "fact") (k := 1) dX5_statement_65 (fun U hU => hU.2.2.2.2.2.2.2.2.2.2.2.2.2.2.1) ?_
          obtain ⟨r35, c34, h⟩ := am_bnd h
          refine am_callVi (as := [.inr (.inr (9100, 1, 0))]) dX5_statement_67 cv_RX5_214 cb_X5_isWord sh_5 rfl hk_5 rfl rfl (Nat.le_of_ble_eq_true rfl) (c_X5_isWord (by decide) c34) ?_
          refine am_if_eq 81 dX5_statement_70 rfl (fun b54 => ?_) (fun b54 => ?_)
          · replace h := am_ifT b54 h
            refine am_aload_n dX5_statement_81 rfl ?_
            obtain ⟨r37, c36, h⟩ := am_bnd h
            refine am_callVi (as := []) dX5_statement_82 cv_RX5_194 cb_X5_wrong sh_5 rfl hk_5 rfl rfl (Nat.le_of_ble_eq_true rfl) (c_X5_wrong c36) ?_
            obtain ⟨g38, h⟩ := am_grd h
            obtain rfl := Option.some.inj h
            exact am_ireturn dX5_statement_85 rfl (am_narZ g38) hp
          · replace h := am_ifF b54 h
            refine am_aload_n dX5_statement_73 rfl ?_
            refine am_getI dX5_statement_74 fl_RX5_151 sh_5 rfl hk_5 ?_
            refine am_iconst dX5_statement_77 ic_4 ?_
            refine am_icmp_ne 86 dX5_statement_78 rfl (fun b53 => ?_) (fun b53 => ?_)
            · replace h := am_ifF b53 h
              refine am_aload_n dX5_statement_86 rfl ?_
              refine am_iconst dX5_statement_87 ic_0 ?_
              refine am_iconst dX5_statement_88 ic_3 ?_
              obtain ⟨r40, c39, h⟩ := am_bnd h
              refine am_callVi (as := [.inl (0 : Int32), .inl (3 : Int32)]) dX5_statement_89 cv_RX5_205 cb_X5_tells sh_5 rfl hk_5 rfl rfl (Nat.le_of_ble_eq_true rfl) (c_X5_tells c39) ?_
              refine am_if_eq 117 dX5_statement_92 rfl (fun b49 => ?_) (fun b49 => ?_)
              · replace h := am_ifT b49 h
                refine am_iconst dX5_statement_117 ic_0 ?_
                obtain rfl := Option.some.inj h
                exact am_ireturn dX5_statement_118 rfl (am_narZ (by decide)) hp
              · replace h := am_ifF b49 h
                refine am_aload_n dX5_statement_95 rfl ?_
                refine am_iconst dX5_statement_96 ic_1 ?_
                refine am_iconst dX5_statement_97 ic_0 ?_
                refine am_bipush dX5_statement_98 bp_24 ?_
                obtain ⟨r42, c41, h⟩ := am_bnd h
                refine am_callVi (as := [.inl (1 : Int32), .inl (0 : Int32), .inl (24 : Int32)]) dX5_statement_100 cv_RX5_201 cb_X5_number sh_5 rfl hk_5 rfl rfl (Nat.le_of_ble_eq_true rfl) (c_X5_number c41) ?_
                refine am_if_eq 117 dX5_statement_103 rfl (fun b48 => ?_) (fun b48 => ?_)
                · replace h := am_ifT b48 h
                  refine am_iconst dX5_statement_117 ic_0 ?_
                  obtain rfl := Option.some.inj h
                  exact am_ireturn dX5_statement_118 rfl (am_narZ (by decide)) hp
                · replace h := am_ifF b48 h
                  refine am_aload_n dX5_statement_106 rfl ?_
                  refine am_iconst dX5_statement_107 ic_2 ?_
                  refine am_iconst dX5_statement_108 ic_0 ?_
                  refine am_bipush dX5_statement_109 bp_24 ?_
                  obtain ⟨r44, c43, h⟩ := am_bnd h
                  refine am_callVi (as := [.inl (2 : Int32), .inl (0 : Int32), .inl (24 : Int32)]) dX5_statement_111 cv_RX5_201 cb_X5_number sh_5 rfl hk_5 rfl rfl (Nat.le_of_ble_eq_true rfl) (c_X5_number c43) ?_
                  refine am_if_ne 119 dX5_statement_114 rfl (fun b47 => ?_) (fun b47 => ?_)
                  · replace h := am_ifF b47 h
                    refine am_aload_n dX5_statement_119 rfl ?_
                    refine am_aload_n dX5_statement_120 rfl ?_
                    refine am_getR (o' := o) dX5_statement_121 fl_RX5_61 sh_5 rfl rfl hk_5 ?_
                    refine am_iconst dX5_statement_124 ic_0 ?_
                    refine am_iaload dX5_statement_125 sh_626 hk_626 (am_inbE (by decide)) ?_
                    refine am_aload_n dX5_statement_126 rfl ?_
                    refine am_getR (o' := o) dX5_statement_127 fl_RX5_61 sh_5 rfl rfl hk_5 ?_
                    refine am_iconst dX5_statement_130 ic_1 ?_
                    refine am_iaload dX5_statement_131 sh_626 hk_626 (am_inbE (by decide)) ?_
                    refine am_aload_n dX5_statement_132 rfl ?_
                    refine am_getR (o' := o) dX5_statement_133 fl_RX5_61 sh_5 rfl rfl hk_5 ?_
                    refine am_iconst dX5_statement_136 ic_2 ?_
                    refine am_iaload dX5_statement_137 sh_626 hk_626 (am_inbE (by decide)) ?_
                    obtain ⟨r46, c45, h⟩ := am_bnd h
                    refine am_callVi (as := [.inl (r44.2.1 626 o 0 (0 : Int32).toNatClampNeg), .inl (r44.2.1 626 o 0 (1 : Int32).toNatClampNeg), .inl (r44.2.1 626 o 0 (2 : Int32).toNatClampNeg)]) dX5_statement_138 cv_RX5_232 cb_X5_fact sh_5 rfl hk_5 rfl rfl (Nat.le_of_ble_eq_true rfl) (c_X5_fact c45) ?_
                    refine am_pop dX5_statement_141 rfl ?_
                    refine am_iconst dX5_statement_142 ic_1 ?_
                    obtain rfl := Option.some.inj h
                    exact am_ireturn dX5_statement_143 rfl (am_narZ (by decide)) hp
                  · replace h := am_ifT b47 h
                    refine am_iconst dX5_statement_117 ic_0 ?_
                    obtain rfl := Option.some.inj h
                    exact am_ireturn dX5_statement_118 rfl (am_narZ (by decide)) hp
            · replace h := am_ifT b53 h
              refine am_aload_n dX5_statement_81 rfl ?_
              obtain ⟨r51, c50, h⟩ := am_bnd h
              refine am_callVi (as := []) dX5_statement_82 cv_RX5_194 cb_X5_wrong sh_5 rfl hk_5 rfl rfl (Nat.le_of_ble_eq_true rfl) (c_X5_wrong c50) ?_
              obtain ⟨g52, h⟩ := am_grd h
              obtain rfl := Option.some.inj h
              exact am_ireturn dX5_statement_85 rfl (am_narZ g52) hp
        · replace h := am_ifF b58 h
          refine am_aload_n dX5_statement_59 rfl ?_
          obtain ⟨r56, c55, h⟩ := am_bnd h
          refine am_callVi (as := []) dX5_statement_60 cv_RX5_228 cb_X5_readTold sh_5 rfl hk_5 rfl rfl (Nat.le_of_ble_eq_true rfl) (c_X5_readTold c55) ?_
          obtain ⟨g57, h⟩ := am_grd h
          obtain rfl := Option.some.inj h
          exact am_ireturn dX5_statement_63 rfl (am_narZ g57) hp
      · replace h := am_ifT b62 h
        refine am_aload_n dX5_statement_45 rfl ?_
        obtain ⟨r60, c59, h⟩ := am_bnd h
        refine am_callVi (as := []) dX5_statement_46 cv_RX5_223 cb_X5_swapTold sh_5 rfl hk_5 rfl rfl (Nat.le_of_ble_eq_true rfl) (c_X5_swapTold c59) ?_
        obtain ⟨g61, h⟩ := am_grd h
        obtain rfl := Option.some.inj h
        exact am_ireturn dX5_statement_49 rfl (am_narZ g61) hp
  · replace h := am_ifF b191 h
    refine am_aload_n dX5_statement_9 rfl ?_
    refine am_getI dX5_statement_10 fl_RX5_137 sh_5 rfl hk_5 ?_
    refine am_if_ne 29 dX5_statement_13 rfl (fun b190 => ?_) (fun b190 => ?_)
    · replace h := am_ifF b190 h
      refine am_aload_n dX5_statement_29 rfl ?_
      refine am_ldcS (tx := "swap") (k := 3) dX5_statement_30 (fun U hU => hU.2.2.2.2.2.2.2.2.2.2.2.2.2.2.2.2) ?_
      obtain ⟨r65, c64, h⟩ := am_bnd h
      refine am_callVi (as := [.inr (.inr (9100, 3, 0))]) dX5_statement_32 cv_RX5_214 cb_X5_isWord sh_5 rfl hk_5 rfl rfl (Nat.le_of_ble_eq_true rfl) (c_X5_isWord (by decide) c64) ?_
      refine am_if_eq 50 dX5_statement_35 rfl (fun b124 => ?_) (fun b124 => ?_)
      · replace h := am_ifT b124 h
        refine am_aload_n dX5_statement_50 rfl ?_
        refine am_ldcS (tx := "read") (k := 2) dX5_statement_51 (fun U hU => hU.2.2.2.2.2.2.2.2.2.2.2.2.2.2.2.1) ?_
        obtain ⟨r67, c66, h⟩ := am_bnd h
        refine am_callVi (as := [.inr (.inr (9100, 2, 0))]) dX5_statement_53 cv_RX5_214 cb_X5_isWord sh_5 rfl hk_5 rfl rfl (Nat.le_of_ble_eq_true rfl) (c_X5_isWord (by decide) c66) ?_
        refine am_if_eq 64 dX5_statement_56 rfl (fun b92 => ?_) (fun b92 => ?_)
        · replace h := am_ifT b92 h
          refine am_aload_n dX5_statement_64 rfl ?_
          refine am_ldcS (tx := "fact") (k := 1) dX5_statement_65 (fun U hU => hU.2.2.2.2.2.2.2.2.2.2.2.2.2.2.1) ?_
          obtain ⟨r69, c68, h⟩ := am_bnd h
          refine am_callVi (as := [.inr (.inr (9100, 1, 0))]) dX5_statement_67 cv_RX5_214 cb_X5_isWord sh_5 rfl hk_5 rfl rfl (Nat.le_of_ble_eq_true rfl) (c_X5_isWord (by decide) c68) ?_
          refine am_if_eq 81 dX5_statement_70 rfl (fun b88 => ?_) (fun b88 => ?_)
          · replace h := am_ifT b88 h
            refine am_aload_n dX5_statement_81 rfl ?_
            obtain ⟨r71, c70, h⟩ := am_bnd h
            refine am_callVi (as := []) dX5_statement_82 cv_RX5_194 cb_X5_wrong sh_5 rfl hk_5 rfl rfl (Nat.le_of_ble_eq_true rfl) (c_X5_wrong c70) ?_
            obtain ⟨g72, h⟩ := am_grd h
            obtain rfl := Option.some.inj h
            exact am_ireturn dX5_statement_85 rfl (am_narZ g72) hp
          · replace h := am_ifF b88 h
            refine am_aload_n dX5_statement_73 rfl ?_
            refine am_getI dX5_statement_74 fl_RX5_151 sh_5 rfl hk_5 ?_
            refine am_iconst dX5_statement_77 ic_4 ?_
            refine am_icmp_ne 86 dX5_statement_78 rfl (fun b87 => ?_) (fun b87 => ?_)
            · replace h := am_ifF b87 h
              refine am_aload_n dX5_statement_86 rfl ?_
              refine am_iconst dX5_statement_87 ic_0 ?_
              refine am_iconst dX5_statement_88 ic_3 ?_
              obtain ⟨r74, c73, h⟩ := am_bnd h
              refine am_callVi (as := [.inl (0 : Int32), .inl (3 : Int32)]) dX5_statement_89 cv_RX5_205 cb_X5_tells sh_5 rfl hk_5 rfl rfl (Nat.le_of_ble_eq_true rfl) (c_X5_tells c73) ?_
              refine am_if_eq 117 dX5_statement_92 rfl (fun b83 => ?_) (fun b83 => ?_)
              · replace h := am_ifT b83 h
                refine am_iconst dX5_statement_117 ic_0 ?_
                obtain rfl := Option.some.inj h
                exact am_ireturn dX5_statement_118 rfl (am_narZ (by decide)) hp
              · replace h := am_ifF b83 h
                refine am_aload_n dX5_statement_95 rfl ?_
                refine am_iconst dX5_statement_96 ic_1 ?_
                refine am_iconst dX5_statement_97 ic_0 ?_
                refine am_bipush dX5_statement_98 bp_24 ?_
                obtain ⟨r76, c75, h⟩ := am_bnd h
                refine am_callVi (as := [.inl (1 : Int32), .inl (0 : Int32), .inl (24 : Int32)]) dX5_statement_100 cv_RX5_201 cb_X5_number sh_5 rfl hk_5 rfl rfl (Nat.le_of_ble_eq_true rfl) (c_X5_number c75) ?_
                refine am_if_eq 117 dX5_statement_103 rfl (fun b82 => ?_) (fun b82 => ?_)
                · replace h := am_ifT b82 h
                  refine am_iconst dX5_statement_117 ic_0 ?_
                  obtain rfl := Option.some.inj h
                  exact am_ireturn dX5_statement_118 rfl (am_narZ (by decide)) hp
                · replace h := am_ifF b82 h
                  refine am_aload_n dX5_statement_106 rfl ?_
                  refine am_iconst dX5_statement_107 ic_2 ?_
                  refine am_iconst dX5_statement_108 ic_0 ?_
                  refine am_bipush dX5_statement_109 bp_24 ?_
                  obtain ⟨r78, c77, h⟩ := am_bnd h
                  refine am_callVi (as := [.inl (2 : Int32), .inl (0 : Int32), .inl (24 : Int32)]) dX5_statement_111 cv_RX5_201 cb_X5_number sh_5 rfl hk_5 rfl rfl (Nat.le_of_ble_eq_true rfl) (c_X5_number c77) ?_
                  refine am_if_ne 119 dX5_statement_114 rfl (fun b81 => ?_) (fun b81 => ?_)
                  · replace h := am_ifF b81 h
                    refine am_aload_n dX5_statement_119 rfl ?_
                    refine am_aload_n dX5_statement_120 rfl ?_
                    refine am_getR (o' := o) dX5_statement_121 fl_RX5_61 sh_5 rfl rfl hk_5 ?_
                    refine am_iconst dX5_statement_124 ic_0 ?_
                    refine am_iaload dX5_statement_125 sh_626 hk_626 (am_inbE (by decide)) ?_
                    refine am_aload_n dX5_statement_126 rfl ?_
                    refine am_getR (o' := o) dX5_statement_127 fl_RX5_61 sh_5 rfl rfl hk_5 ?_
                    refine am_iconst dX5_statement_130 ic_1 ?_
                    refine am_iaload dX5_statement_131 sh_626 hk_626 (am_inbE (by decide)) ?_
                    refine am_aload_n dX5_statement_132 rfl ?_
                    refine am_getR (o' := o) dX5_statement_133 fl_RX5_61 sh_5 rfl rfl hk_5 ?_
                    refine am_iconst dX5_statement_136 ic_2 ?_
                    refine am_iaload dX5_statement_137 sh_626 hk_626 (am_inbE (by decide)) ?_
                    obtain ⟨r80, c79, h⟩ := am_bnd h
                    refine am_callVi (as := [.inl (r78.2.1 626 o 0 (0 : Int32).toNatClampNeg), .inl (r78.2.1 626 o 0 (1 : Int32).toNatClampNeg), .inl (r78.2.1 626 o 0 (2 : Int32).toNatClampNeg)]) dX5_statement_138 cv_RX5_232 cb_X5_fact sh_5 rfl hk_5 rfl rfl (Nat.le_of_ble_eq_true rfl) (c_X5_fact c79) ?_
                    refine am_pop dX5_statement_141 rfl ?_
                    refine am_iconst dX5_statement_142 ic_1 ?_
                    obtain rfl := Option.some.inj h
                    exact am_ireturn dX5_statement_143 rfl (am_narZ (by decide)) hp
                  · replace h := am_ifT b81 h
                    refine am_iconst dX5_statement_117 ic_0 ?_
                    obtain rfl := Option.some.inj h
                    exact am_ireturn dX5_statement_118 rfl (am_narZ (by decide)) hp
            · replace h := am_ifT b87 h
              refine am_aload_n dX5_statement_81 rfl ?_
              obtain ⟨r85, c84, h⟩ := am_bnd h
              refine am_callVi (as := []) dX5_statement_82 cv_RX5_194 cb_X5_wrong sh_5 rfl hk_5 rfl rfl (Nat.le_of_ble_eq_true rfl) (c_X5_wrong c84) ?_
              obtain ⟨g86, h⟩ := am_grd h
              obtain rfl := Option.some.inj h
              exact am_ireturn dX5_statement_85 rfl (am_narZ g86) hp
        · replace h := am_ifF b92 h
          refine am_aload_n dX5_statement_59 rfl ?_
          obtain ⟨r90, c89, h⟩ := am_bnd h
          refine am_callVi (as := []) dX5_statement_60 cv_RX5_228 cb_X5_readTold sh_5 rfl hk_5 rfl rfl (Nat.le_of_ble_eq_true rfl) (c_X5_readTold c89) ?_
          obtain ⟨g91, h⟩ := am_grd h
          obtain rfl := Option.some.inj h
          exact am_ireturn dX5_statement_63 rfl (am_narZ g91) hp
      · replace h := am_ifF b124 h
        refine am_aload_n dX5_statement_38 rfl ?_
        refine am_getI dX5_statement_39 fl_RX5_137 sh_5 rfl hk_5 ?_
        refine am_if_ne 50 dX5_statement_42 rfl (fun b123 => ?_) (fun b123 => ?_)
        · replace h := am_ifF b123 h
          refine am_aload_n dX5_statement_50 rfl ?_
          refine am_ldcS (tx := "read") (k := 2) dX5_statement_51 (fun U hU => hU.2.2.2.2.2.2.2.2.2.2.2.2.2.2.2.1) ?_
          obtain ⟨r94, c93, h⟩ := am_bnd h
          refine am_callVi (as := [.inr (.inr (9100, 2, 0))]) dX5_statement_53 cv_RX5_214 cb_X5_isWord sh_5 rfl hk_5 rfl rfl (Nat.le_of_ble_eq_true rfl) (c_X5_isWord (by decide) c93) ?_
          refine am_if_eq 64 dX5_statement_56 rfl (fun b119 => ?_) (fun b119 => ?_)
          · replace h := am_ifT b119 h
            refine am_aload_n dX5_statement_64 rfl ?_
            refine am_ldcS (tx := "fact") (k := 1) dX5_statement_65 (fun U hU => hU.2.2.2.2.2.2.2.2.2.2.2.2.2.2.1) ?_
            obtain ⟨r96, c95, h⟩ := am_bnd h
            refine am_callVi (as := [.inr (.inr (9100, 1, 0))]) dX5_statement_67 cv_RX5_214 cb_X5_isWord sh_5 rfl hk_5 rfl rfl (Nat.le_of_ble_eq_true rfl) (c_X5_isWord (by decide) c95) ?_
            refine am_if_eq 81 dX5_statement_70 rfl (fun b115 => ?_) (fun b115 => ?_)
            · replace h := am_ifT b115 h
              refine am_aload_n dX5_statement_81 rfl ?_
              obtain ⟨r98, c97, h⟩ := am_bnd h
              refine am_callVi (as := []) dX5_statement_82 cv_RX5_194 cb_X5_wrong sh_5 rfl hk_5 rfl rfl (Nat.le_of_ble_eq_true rfl) (c_X5_wrong c97) ?_
              obtain ⟨g99, h⟩ := am_grd h
              obtain rfl := Option.some.inj h
              exact am_ireturn dX5_statement_85 rfl (am_narZ g99) hp
            · replace h := am_ifF b115 h
              refine am_aload_n dX5_statement_73 rfl ?_
              refine am_getI dX5_statement_74 fl_RX5_151 sh_5 rfl hk_5 ?_
              refine am_iconst dX5_statement_77 ic_4 ?_
              refine am_icmp_ne 86 dX5_statement_78 rfl (fun b114 => ?_) (fun b114 => ?_)
              · replace h := am_ifF b114 h
                refine am_aload_n dX5_statement_86 rfl ?_
                refine am_iconst dX5_statement_87 ic_0 ?_
                refine am_iconst dX5_statement_88 ic_3 ?_
                obtain ⟨r101, c100, h⟩ := am_bnd h
                refine am_callVi (as := [.inl (0 : Int32), .inl (3 : Int32)]) dX5_statement_89 cv_RX5_205 cb_X5_tells sh_5 rfl hk_5 rfl rfl (Nat.le_of_ble_eq_true rfl) (c_X5_tells c100) ?_
                refine am_if_eq 117 dX5_statement_92 rfl (fun b110 => ?_) (fun b110 => ?_)
                · replace h := am_ifT b110 h
                  refine am_iconst dX5_statement_117 ic_0 ?_
                  obtain rfl := Option.some.inj h
                  exact am_ireturn dX5_statement_118 rfl (am_narZ (by decide)) hp
                · replace h := am_ifF b110 h
                  refine am_aload_n dX5_statement_95 rfl ?_
                  refine am_iconst dX5_statement_96 ic_1 ?_
                  refine am_iconst dX5_statement_97 ic_0 ?_
                  refine am_bipush dX5_statement_98 bp_24 ?_
                  obtain ⟨r103, c102, h⟩ := am_bnd h
                  refine am_callVi (as := [.inl (1 : Int32), .inl (0 : Int32), .inl (24 : Int32)]) dX5_statement_100 cv_RX5_201 cb_X5_number sh_5 rfl hk_5 rfl rfl (Nat.le_of_ble_eq_true rfl) (c_X5_number c102) ?_
                  refine am_if_eq 117 dX5_statement_103 rfl (fun b109 => ?_) (fun b109 => ?_)
                  · replace h := am_ifT b109 h
                    refine am_iconst dX5_statement_117 ic_0 ?_
                    obtain rfl := Option.some.inj h
                    exact am_ireturn dX5_statement_118 rfl (am_narZ (by decide)) hp
                  · replace h := am_ifF b109 h
                    refine am_aload_n dX5_statement_106 rfl ?_
                    refine am_iconst dX5_statement_107 ic_2 ?_
                    refine am_iconst dX5_statement_108 ic_0 ?_
                    refine am_bipush dX5_statement_109 bp_24 ?_
                    obtain ⟨r105, c104, h⟩ := am_bnd h
                    refine am_callVi (as := [.inl (2 : Int32), .inl (0 : Int32), .inl (24 : Int32)]) dX5_statement_111 cv_RX5_201 cb_X5_number sh_5 rfl hk_5 rfl rfl (Nat.le_of_ble_eq_true rfl) (c_X5_number c104) ?_
                    refine am_if_ne 119 dX5_statement_114 rfl (fun b108 => ?_) (fun b108 => ?_)
                    · replace h := am_ifF b108 h
                      refine am_aload_n dX5_statement_119 rfl ?_
                      refine am_aload_n dX5_statement_120 rfl ?_
                      refine am_getR (o' := o) dX5_statement_121 fl_RX5_61 sh_5 rfl rfl hk_5 ?_
                      refine am_iconst dX5_statement_124 ic_0 ?_
                      refine am_iaload dX5_statement_125 sh_626 hk_626 (am_inbE (by decide)) ?_
                      refine am_aload_n dX5_statement_126 rfl ?_
                      refine am_getR (o' := o) dX5_statement_127 fl_RX5_61 sh_5 rfl rfl hk_5 ?_
                      refine am_iconst dX5_statement_130 ic_1 ?_
                      refine am_iaload dX5_statement_131 sh_626 hk_626 (am_inbE (by decide)) ?_
                      refine am_aload_n dX5_statement_132 rfl ?_
                      refine am_getR (o' := o) dX5_statement_133 fl_RX5_61 sh_5 rfl rfl hk_5 ?_
                      refine am_iconst dX5_statement_136 ic_2 ?_
                      refine am_iaload dX5_statement_137 sh_626 hk_626 (am_inbE (by decide)) ?_
                      obtain ⟨r107, c106, h⟩ := am_bnd h
                      refine am_callVi (as := [.inl (r105.2.1 626 o 0 (0 : Int32).toNatClampNeg), .inl (r105.2.1 626 o 0 (1 : Int32).toNatClampNeg), .inl (r105.2.1 626 o 0 (2 : Int32).toNatClampNeg)]) dX5_statement_138 cv_RX5_232 cb_X5_fact sh_5 rfl hk_5 rfl rfl (Nat.le_of_ble_eq_true rfl) (c_X5_fact c106) ?_
                      refine am_pop dX5_statement_141 rfl ?_
                      refine am_iconst dX5_statement_142 ic_1 ?_
                      obtain rfl := Option.some.inj h
                      exact am_ireturn dX5_statement_143 rfl (am_narZ (by decide)) hp
                    · replace h := am_ifT b108 h
                      refine am_iconst dX5_statement_117 ic_0 ?_
                      obtain rfl := Option.some.inj h
                      exact am_ireturn dX5_statement_118 rfl (am_narZ (by decide)) hp
              · replace h := am_ifT b114 h
                refine am_aload_n dX5_statement_81 rfl ?_
                obtain ⟨r112, c111, h⟩ := am_bnd h
                refine am_callVi (as := []) dX5_statement_82 cv_RX5_194 cb_X5_wrong sh_5 rfl hk_5 rfl rfl (Nat.le_of_ble_eq_true rfl) (c_X5_wrong c111) ?_
                obtain ⟨g113, h⟩ := am_grd h
                obtain rfl := Option.some.inj h
                exact am_ireturn dX5_statement_85 rfl (am_narZ g113) hp
          · replace h := am_ifF b119 h
            refine am_aload_n dX5_statement_59 rfl ?_
            obtain ⟨r117, c116, h⟩ := am_bnd h
            refine am_callVi (as := []) dX5_statement_60 cv_RX5_228 cb_X5_readTold sh_5 rfl hk_5 rfl rfl (Nat.le_of_ble_eq_true rfl) (c_X5_readTold c116) ?_
            obtain ⟨g118, h⟩ := am_grd h
            obtain rfl := Option.some.inj h
            exact am_ireturn dX5_statement_63 rfl (am_narZ g118) hp
        · replace h := am_ifT b123 h
          refine am_aload_n dX5_statement_45 rfl ?_
          obtain ⟨r121, c120, h⟩ := am_bnd h
          refine am_callVi (as := []) dX5_statement_46 cv_RX5_223 cb_X5_swapTold sh_5 rfl hk_5 rfl rfl (Nat.le_of_ble_eq_true rfl) (c_X5_swapTold c120) ?_
          obtain ⟨g122, h⟩ := am_grd h
          obtain rfl := Option.some.inj h
          exact am_ireturn dX5_statement_49 rfl (am_narZ g122) hp
    · replace h := am_ifT b190 h
      refine am_aload_n dX5_statement_16 rfl ?_
      refine am_getI dX5_statement_17 fl_RX5_130 sh_5 rfl hk_5 ?_
      refine am_iconst dX5_statement_20 ic_4 ?_
      refine am_icmp_ge 29 dX5_statement_21 rfl (fun b189 => ?_) (fun b189 => ?_)
      · replace h := am_ifT b189 h
        refine am_aload_n dX5_statement_29 rfl ?_
        refine am_ldcS (tx := "swap") (k := 3) dX5_statement_30 (fun U hU => hU.2.2.2.2.2.2.2.2.2.2.2.2.2.2.2.2) ?_
        obtain ⟨r126, c125, h⟩ := am_bnd h
        refine am_callVi (as := [.inr (.inr (9100, 3, 0))]) dX5_statement_32 cv_RX5_214 cb_X5_isWord sh_5 rfl hk_5 rfl rfl (Nat.le_of_ble_eq_true rfl) (c_X5_isWord (by decide) c125) ?_
        refine am_if_eq 50 dX5_statement_35 rfl (fun b185 => ?_) (fun b185 => ?_)
        · replace h := am_ifT b185 h
          refine am_aload_n dX5_statement_50 rfl ?_
          refine am_ldcS (tx := "read") (k := 2) dX5_statement_51 (fun U hU => hU.2.2.2.2.2.2.2.2.2.2.2.2.2.2.2.1) ?_
          obtain ⟨r128, c127, h⟩ := am_bnd h
          refine am_callVi (as := [.inr (.inr (9100, 2, 0))]) dX5_statement_53 cv_RX5_214 cb_X5_isWord sh_5 rfl hk_5 rfl rfl (Nat.le_of_ble_eq_true rfl) (c_X5_isWord (by decide) c127) ?_
          refine am_if_eq 64 dX5_statement_56 rfl (fun b153 => ?_) (fun b153 => ?_)
          · replace h := am_ifT b153 h
            refine am_aload_n dX5_statement_64 rfl ?_
            refine am_ldcS (tx := "fact") (k := 1) dX5_statement_65 (fun U hU => hU.2.2.2.2.2.2.2.2.2.2.2.2.2.2.1) ?_
            obtain ⟨r130, c129, h⟩ := am_bnd h
            refine am_callVi (as := [.inr (.inr (9100, 1, 0))]) dX5_statement_67 cv_RX5_214 cb_X5_isWord sh_5 rfl hk_5 rfl rfl (Nat.le_of_ble_eq_true rfl) (c_X5_isWord (by decide) c129) ?_
            refine am_if_eq 81 dX5_statement_70 rfl (fun b149 => ?_) (fun b149 => ?_)
            · replace h := am_ifT b149 h
              refine am_aload_n dX5_statement_81 rfl ?_
              obtain ⟨r132, c131, h⟩ := am_bnd h
              refine am_callVi (as := []) dX5_statement_82 cv_RX5_194 cb_X5_wrong sh_5 rfl hk_5 rfl rfl (Nat.le_of_ble_eq_true rfl) (c_X5_wrong c131) ?_
              obtain ⟨g133, h⟩ := am_grd h
              obtain rfl := Option.some.inj h
              exact am_ireturn dX5_statement_85 rfl (am_narZ g133) hp
            · replace h := am_ifF b149 h
              refine am_aload_n dX5_statement_73 rfl ?_
              refine am_getI dX5_statement_74 fl_RX5_151 sh_5 rfl hk_5 ?_
              refine am_iconst dX5_statement_77 ic_4 ?_
              refine am_icmp_ne 86 dX5_statement_78 rfl (fun b148 => ?_) (fun b148 => ?_)
              · replace h := am_ifF b148 h
                refine am_aload_n dX5_statement_86 rfl ?_
                refine am_iconst dX5_statement_87 ic_0 ?_
                refine am_iconst dX5_statement_88 ic_3 ?_
                obtain ⟨r135, c134, h⟩ := am_bnd h
                refine am_callVi (as := [.inl (0 : Int32), .inl (3 : Int32)]) dX5_statement_89 cv_RX5_205 cb_X5_tells sh_5 rfl hk_5 rfl rfl (Nat.le_of_ble_eq_true rfl) (c_X5_tells c134) ?_
                refine am_if_eq 117 dX5_statement_92 rfl (fun b144 => ?_) (fun b144 => ?_)
                · replace h := am_ifT b144 h
                  refine am_iconst dX5_statement_117 ic_0 ?_
                  obtain rfl := Option.some.inj h
                  exact am_ireturn dX5_statement_118 rfl (am_narZ (by decide)) hp
                · replace h := am_ifF b144 h
                  refine am_aload_n dX5_statement_95 rfl ?_
                  refine am_iconst dX5_statement_96 ic_1 ?_
                  refine am_iconst dX5_statement_97 ic_0 ?_
                  refine am_bipush dX5_statement_98 bp_24 ?_
                  obtain ⟨r137, c136, h⟩ := am_bnd h
                  refine am_callVi (as := [.inl (1 : Int32), .inl (0 : Int32), .inl (24 : Int32)]) dX5_statement_100 cv_RX5_201 cb_X5_number sh_5 rfl hk_5 rfl rfl (Nat.le_of_ble_eq_true rfl) (c_X5_number c136) ?_
                  refine am_if_eq 117 dX5_statement_103 rfl (fun b143 => ?_) (fun b143 => ?_)
                  · replace h := am_ifT b143 h
                    refine am_iconst dX5_statement_117 ic_0 ?_
                    obtain rfl := Option.some.inj h
                    exact am_ireturn dX5_statement_118 rfl (am_narZ (by decide)) hp
                  · replace h := am_ifF b143 h
                    refine am_aload_n dX5_statement_106 rfl ?_
                    refine am_iconst dX5_statement_107 ic_2 ?_
                    refine am_iconst dX5_statement_108 ic_0 ?_
                    refine am_bipush dX5_statement_109 bp_24 ?_
                    obtain ⟨r139, c138, h⟩ := am_bnd h
                    refine am_callVi (as := [.inl (2 : Int32), .inl (0 : Int32), .inl (24 : Int32)]) dX5_statement_111 cv_RX5_201 cb_X5_number sh_5 rfl hk_5 rfl rfl (Nat.le_of_ble_eq_true rfl) (c_X5_number c138) ?_
                    refine am_if_ne 119 dX5_statement_114 rfl (fun b142 => ?_) (fun b142 => ?_)
                    · replace h := am_ifF b142 h
                      refine am_aload_n dX5_statement_119 rfl ?_
                      refine am_aload_n dX5_statement_120 rfl ?_
                      refine am_getR (o' := o) dX5_statement_121 fl_RX5_61 sh_5 rfl rfl hk_5 ?_
                      refine am_iconst dX5_statement_124 ic_0 ?_
                      refine am_iaload dX5_statement_125 sh_626 hk_626 (am_inbE (by decide)) ?_
                      refine am_aload_n dX5_statement_126 rfl ?_
                      refine am_getR (o' := o) dX5_statement_127 fl_RX5_61 sh_5 rfl rfl hk_5 ?_
                      refine am_iconst dX5_statement_130 ic_1 ?_
                      refine am_iaload dX5_statement_131 sh_626 hk_626 (am_inbE (by decide)) ?_
                      refine am_aload_n dX5_statement_132 rfl ?_
                      refine am_getR (o' := o) dX5_statement_133 fl_RX5_61 sh_5 rfl rfl hk_5 ?_
                      refine am_iconst dX5_statement_136 ic_2 ?_
                      refine am_iaload dX5_statement_137 sh_626 hk_626 (am_inbE (by decide)) ?_
                      obtain ⟨r141, c140, h⟩ := am_bnd h
                      refine am_callVi (as := [.inl (r139.2.1 626 o 0 (0 : Int32).toNatClampNeg), .inl (r139.2.1 626 o 0 (1 : Int32).toNatClampNeg), .inl (r139.2.1 626 o 0 (2 : Int32).toNatClampNeg)]) dX5_statement_138 cv_RX5_232 cb_X5_fact sh_5 rfl hk_5 rfl rfl (Nat.le_of_ble_eq_true rfl) (c_X5_fact c140) ?_
                      refine am_pop dX5_statement_141 rfl ?_
                      refine am_iconst dX5_statement_142 ic_1 ?_
                      obtain rfl := Option.some.inj h
                      exact am_ireturn dX5_statement_143 rfl (am_narZ (by decide)) hp
                    · replace h := am_ifT b142 h
                      refine am_iconst dX5_statement_117 ic_0 ?_
                      obtain rfl := Option.some.inj h
                      exact am_ireturn dX5_statement_118 rfl (am_narZ (by decide)) hp
              · replace h := am_ifT b148 h
                refine am_aload_n dX5_statement_81 rfl ?_
                obtain ⟨r146, c145, h⟩ := am_bnd h
                refine am_callVi (as := []) dX5_statement_82 cv_RX5_194 cb_X5_wrong sh_5 rfl hk_5 rfl rfl (Nat.le_of_ble_eq_true rfl) (c_X5_wrong c145) ?_
                obtain ⟨g147, h⟩ := am_grd h
                obtain rfl := Option.some.inj h
                exact am_ireturn dX5_statement_85 rfl (am_narZ g147) hp
          · replace h := am_ifF b153 h
            refine am_aload_n dX5_statement_59 rfl ?_
            obtain ⟨r151, c150, h⟩ := am_bnd h
            refine am_callVi (as := []) dX5_statement_60 cv_RX5_228 cb_X5_readTold sh_5 rfl hk_5 rfl rfl (Nat.le_of_ble_eq_true rfl) (c_X5_readTold c150) ?_
            obtain ⟨g152, h⟩ := am_grd h
            obtain rfl := Option.some.inj h
            exact am_ireturn dX5_statement_63 rfl (am_narZ g152) hp
        · replace h := am_ifF b185 h
          refine am_aload_n dX5_statement_38 rfl ?_
          refine am_getI dX5_statement_39 fl_RX5_137 sh_5 rfl hk_5 ?_
          refine am_if_ne 50 dX5_statement_42 rfl (fun b184 => ?_) (fun b184 => ?_)
          · replace h := am_ifF b184 h
            refine am_aload_n dX5_statement_50 rfl ?_
            refine am_ldcS (tx := "read") (k := 2) dX5_statement_51 (fun U hU => hU.2.2.2.2.2.2.2.2.2.2.2.2.2.2.2.1) ?_
            obtain ⟨r155, c154, h⟩ := am_bnd h
            refine am_callVi (as := [.inr (.inr (9100, 2, 0))]) dX5_statement_53 cv_RX5_214 cb_X5_isWord sh_5 rfl hk_5 rfl rfl (Nat.le_of_ble_eq_true rfl) (c_X5_isWord (by decide) c154) ?_
            refine am_if_eq 64 dX5_statement_56 rfl (fun b180 => ?_) (fun b180 => ?_)
            · replace h := am_ifT b180 h
              refine am_aload_n dX5_statement_64 rfl ?_
              refine am_ldcS (tx := "fact") (k := 1) dX5_statement_65 (fun U hU => hU.2.2.2.2.2.2.2.2.2.2.2.2.2.2.1) ?_
              obtain ⟨r157, c156, h⟩ := am_bnd h
              refine am_callVi (as := [.inr (.inr (9100, 1, 0))]) dX5_statement_67 cv_RX5_214 cb_X5_isWord sh_5 rfl hk_5 rfl rfl (Nat.le_of_ble_eq_true rfl) (c_X5_isWord (by decide) c156) ?_
              refine am_if_eq 81 dX5_statement_70 rfl (fun b176 => ?_) (fun b176 => ?_)
              · replace h := am_ifT b176 h
                refine am_aload_n dX5_statement_81 rfl ?_
                obtain ⟨r159, c158, h⟩ := am_bnd h
                refine am_callVi (as := []) dX5_statement_82 cv_RX5_194 cb_X5_wrong sh_5 rfl hk_5 rfl rfl (Nat.le_of_ble_eq_true rfl) (c_X5_wrong c158) ?_
                obtain ⟨g160, h⟩ := am_grd h
                obtain rfl := Option.some.inj h
                exact am_ireturn dX5_statement_85 rfl (am_narZ g160) hp
              · replace h := am_ifF b176 h
                refine am_aload_n dX5_statement_73 rfl ?_
                refine am_getI dX5_statement_74 fl_RX5_151 sh_5 rfl hk_5 ?_
                refine am_iconst dX5_statement_77 ic_4 ?_
                refine am_icmp_ne 86 dX5_statement_78 rfl (fun b175 => ?_) (fun b175 => ?_)
                · replace h := am_ifF b175 h
                  refine am_aload_n dX5_statement_86 rfl ?_
                  refine am_iconst dX5_statement_87 ic_0 ?_
                  refine am_iconst dX5_statement_88 ic_3 ?_
                  obtain ⟨r162, c161, h⟩ := am_bnd h
                  refine am_callVi (as := [.inl (0 : Int32), .inl (3 : Int32)]) dX5_statement_89 cv_RX5_205 cb_X5_tells sh_5 rfl hk_5 rfl rfl (Nat.le_of_ble_eq_true rfl) (c_X5_tells c161) ?_
                  refine am_if_eq 117 dX5_statement_92 rfl (fun b171 => ?_) (fun b171 => ?_)
                  · replace h := am_ifT b171 h
                    refine am_iconst dX5_statement_117 ic_0 ?_
                    obtain rfl := Option.some.inj h
                    exact am_ireturn dX5_statement_118 rfl (am_narZ (by decide)) hp
                  · replace h := am_ifF b171 h
                    refine am_aload_n dX5_statement_95 rfl ?_
                    refine am_iconst dX5_statement_96 ic_1 ?_
                    refine am_iconst dX5_statement_97 ic_0 ?_
                    refine am_bipush dX5_statement_98 bp_24 ?_
                    obtain ⟨r164, c163, h⟩ := am_bnd h
                    refine am_callVi (as := [.inl (1 : Int32), .inl (0 : Int32), .inl (24 : Int32)]) dX5_statement_100 cv_RX5_201 cb_X5_number sh_5 rfl hk_5 rfl rfl (Nat.le_of_ble_eq_true rfl) (c_X5_number c163) ?_
                    refine am_if_eq 117 dX5_statement_103 rfl (fun b170 => ?_) (fun b170 => ?_)
                    · replace h := am_ifT b170 h
                      refine am_iconst dX5_statement_117 ic_0 ?_
                      obtain rfl := Option.some.inj h
                      exact am_ireturn dX5_statement_118 rfl (am_narZ (by decide)) hp
                    · replace h := am_ifF b170 h
                      refine am_aload_n dX5_statement_106 rfl ?_
                      refine am_iconst dX5_statement_107 ic_2 ?_
                      refine am_iconst dX5_statement_108 ic_0 ?_
                      refine am_bipush dX5_statement_109 bp_24 ?_
                      obtain ⟨r166, c165, h⟩ := am_bnd h
                      refine am_callVi (as := [.inl (2 : Int32), .inl (0 : Int32), .inl (24 : Int32)]) dX5_statement_111 cv_RX5_201 cb_X5_number sh_5 rfl hk_5 rfl rfl (Nat.le_of_ble_eq_true rfl) (c_X5_number c165) ?_
                      refine am_if_ne 119 dX5_statement_114 rfl (fun b169 => ?_) (fun b169 => ?_)
                      · replace h := am_ifF b169 h
                        refine am_aload_n dX5_statement_119 rfl ?_
                        refine am_aload_n dX5_statement_120 rfl ?_
                        refine am_getR (o' := o) dX5_statement_121 fl_RX5_61 sh_5 rfl rfl hk_5 ?_
                        refine am_iconst dX5_statement_124 ic_0 ?_
                        refine am_iaload dX5_statement_125 sh_626 hk_626 (am_inbE (by decide)) ?_
                        refine am_aload_n dX5_statement_126 rfl ?_
                        refine am_getR (o' := o) dX5_statement_127 fl_RX5_61 sh_5 rfl rfl hk_5 ?_
                        refine am_iconst dX5_statement_130 ic_1 ?_
                        refine am_iaload dX5_statement_131 sh_626 hk_626 (am_inbE (by decide)) ?_
                        refine am_aload_n dX5_statement_132 rfl ?_
                        refine am_getR (o' := o) dX5_statement_133 fl_RX5_61 sh_5 rfl rfl hk_5 ?_
                        refine am_iconst dX5_statement_136 ic_2 ?_
                        refine am_iaload dX5_statement_137 sh_626 hk_626 (am_inbE (by decide)) ?_
                        obtain ⟨r168, c167, h⟩ := am_bnd h
                        refine am_callVi (as := [.inl (r166.2.1 626 o 0 (0 : Int32).toNatClampNeg), .inl (r166.2.1 626 o 0 (1 : Int32).toNatClampNeg), .inl (r166.2.1 626 o 0 (2 : Int32).toNatClampNeg)]) dX5_statement_138 cv_RX5_232 cb_X5_fact sh_5 rfl hk_5 rfl rfl (Nat.le_of_ble_eq_true rfl) (c_X5_fact c167) ?_
                        refine am_pop dX5_statement_141 rfl ?_
                        refine am_iconst dX5_statement_142 ic_1 ?_
                        obtain rfl := Option.some.inj h
                        exact am_ireturn dX5_statement_143 rfl (am_narZ (by decide)) hp
                      · replace h := am_ifT b169 h
                        refine am_iconst dX5_statement_117 ic_0 ?_
                        obtain rfl := Option.some.inj h
                        exact am_ireturn dX5_statement_118 rfl (am_narZ (by decide)) hp
                · replace h := am_ifT b175 h
                  refine am_aload_n dX5_statement_81 rfl ?_
                  obtain ⟨r173, c172, h⟩ := am_bnd h
                  refine am_callVi (as := []) dX5_statement_82 cv_RX5_194 cb_X5_wrong sh_5 rfl hk_5 rfl rfl (Nat.le_of_ble_eq_true rfl) (c_X5_wrong c172) ?_
                  obtain ⟨g174, h⟩ := am_grd h
                  obtain rfl := Option.some.inj h
                  exact am_ireturn dX5_statement_85 rfl (am_narZ g174) hp
            · replace h := am_ifF b180 h
              refine am_aload_n dX5_statement_59 rfl ?_
              obtain ⟨r178, c177, h⟩ := am_bnd h
              refine am_callVi (as := []) dX5_statement_60 cv_RX5_228 cb_X5_readTold sh_5 rfl hk_5 rfl rfl (Nat.le_of_ble_eq_true rfl) (c_X5_readTold c177) ?_
              obtain ⟨g179, h⟩ := am_grd h
              obtain rfl := Option.some.inj h
              exact am_ireturn dX5_statement_63 rfl (am_narZ g179) hp
          · replace h := am_ifT b184 h
            refine am_aload_n dX5_statement_45 rfl ?_
            obtain ⟨r182, c181, h⟩ := am_bnd h
            refine am_callVi (as := []) dX5_statement_46 cv_RX5_223 cb_X5_swapTold sh_5 rfl hk_5 rfl rfl (Nat.le_of_ble_eq_true rfl) (c_X5_swapTold c181) ?_
            obtain ⟨g183, h⟩ := am_grd h
            obtain rfl := Option.some.inj h
            exact am_ireturn dX5_statement_49 rfl (am_narZ g183) hp
      · replace h := am_ifF b189 h
        refine am_aload_n dX5_statement_24 rfl ?_
        obtain ⟨r187, c186, h⟩ := am_bnd h
        refine am_callVi (as := []) dX5_statement_25 cv_RX5_218 cb_X5_heapTold sh_5 rfl hk_5 rfl rfl (Nat.le_of_ble_eq_true rfl) (c_X5_heapTold c186) ?_
        obtain ⟨g188, h⟩ := am_grd h
        obtain rfl := Option.some.inj h
        exact am_ireturn dX5_statement_28 rfl (am_narZ g188) hp
theorem c_X5_statement {K : am_K} {d : Nat} {M : am_M} {o : Nat} {y : Int32 × am_M} (h : f_X5_statement M o = some y) : am_Met K (d + 6) m_X5_statement [.inr (.inr (5, o, 0))] M (fun q N => q = some (.inl y.1) ∧ N = y.2) :=
  am_Met_of cb_X5_statement (Nat.le_of_ble_eq_true rfl) (w_X5_statement h ⟨rfl, rfl⟩)
def l_X5_readAll_23 (o0a : Nat) : Nat → am_M → Option (Int32 × am_M)
  | 0, _ => none
  | n + 1, M => (if (M.1 5 o0a 0 22) = 0 then some ((1 : Int32), M) else (if (M.1 5 o0a 0 22) = (3 : Int32) then (f_X5_look M o0a).bind (fun r8 => (f_X5_statement r8 o0a).bind (fun r10 => (if r10.1 = 0 then some ((0 : Int32), r10.2) else am_let (am_si r10.2 5 o0a 0 27 ((r10.2.1 5 o0a 0 27) + (1 : Int32))) (fun M11 => l_X5_readAll_23 o0a n M11)))) else (f_X5_wrong M o0a).bind (fun r14 => if (r14.1 = 0 ∨ r14.1 = 1) then some (r14.1, r14.2) else none)))
set_option maxHeartbeats 4000000 in
theorem wl_X5_readAll_23 {K : am_K} {d : Nat} {post : Option am_V → am_M → Prop} {o0a : Nat} : ∀ (n : Nat) (M : am_M) (y : Int32 × am_M), l_X5_readAll_23 o0a n M = some y → post (some (.inl y.1)) y.2 → am_W K (d + 7) m_X5_readAll 23 [(0, .inr (.inr (5, o0a, 0)))] [] M post := by
  intro n
  induction n with
  | zero => intro M y h hp; cases h
  | succ n ih =>
    intro M y h hp
    rw [l_X5_readAll_23] at h
    refine am_aload_n dX5_readAll_23 rfl ?_
    refine am_getI dX5_readAll_24 fl_RX5_171 sh_5 rfl hk_5 ?_
    refine am_if_eq 69 dX5_readAll_27 rfl (fun b17 => ?_) (fun b17 => ?_)
    · replace h := am_ifT b17 h
      refine am_iconst dX5_readAll_69 ic_1 ?_
      obtain rfl := Option.some.inj h
      exact am_ireturn dX5_readAll_70 rfl (am_narZ (by decide)) hp
    · replace h := am_ifF b17 h
      refine am_aload_n dX5_readAll_30 rfl ?_
      refine am_getI dX5_readAll_31 fl_RX5_171 sh_5 rfl hk_5 ?_
      refine am_iconst dX5_readAll_34 ic_3 ?_
      refine am_icmp_eq 43 dX5_readAll_35 rfl (fun b16 => ?_) (fun b16 => ?_)
      · replace h := am_ifT b16 h
        refine am_aload_n dX5_readAll_43 rfl ?_
        obtain ⟨r8, c7, h⟩ := am_bnd h
        refine am_callVv (as := []) dX5_readAll_44 cv_RX5_198 cb_X5_look sh_5 rfl hk_5 rfl rfl (Nat.le_of_ble_eq_true rfl) (c_X5_look c7) ?_
        refine am_aload_n dX5_readAll_47 rfl ?_
        obtain ⟨r10, c9, h⟩ := am_bnd h
        refine am_callVi (as := []) dX5_readAll_48 cv_RX5_238 cb_X5_statement sh_5 rfl hk_5 rfl rfl (Nat.le_of_ble_eq_true rfl) (c_X5_statement c9) ?_
        refine am_if_ne 56 dX5_readAll_51 rfl (fun b12 => ?_) (fun b12 => ?_)
        · replace h := am_ifF b12 h
          refine am_aload_n dX5_readAll_56 rfl ?_
          refine am_dup dX5_readAll_57 rfl ?_
          refine am_getI dX5_readAll_58 fl_RX5_235 sh_5 rfl hk_5 ?_
          refine am_iconst dX5_readAll_61 ic_1 ?_
          refine am_iadd dX5_readAll_62 ?_
          obtain ⟨M11, eM11, h⟩ := am_letE h
          refine am_putI dX5_readAll_63 fl_RX5_235 fp_X5_27 sh_5 rfl rfl rfl hk_5 ?_
          refine am_mem eM11 ?_
          refine am_goto 23 dX5_readAll_66 rfl ?_
          exact am_drop [0] rfl (ih _ _ h hp)
        · replace h := am_ifT b12 h
          refine am_iconst dX5_readAll_54 ic_0 ?_
          obtain rfl := Option.some.inj h
          exact am_ireturn dX5_readAll_55 rfl (am_narZ (by decide)) hp
      · replace h := am_ifF b16 h
        refine am_aload_n dX5_readAll_38 rfl ?_
        obtain ⟨r14, c13, h⟩ := am_bnd h
        refine am_callVi (as := []) dX5_readAll_39 cv_RX5_194 cb_X5_wrong sh_5 rfl hk_5 rfl rfl (Nat.le_of_ble_eq_true rfl) (c_X5_wrong c13) ?_
        obtain ⟨g15, h⟩ := am_grd h
        obtain rfl := Option.some.inj h
        exact am_ireturn dX5_readAll_42 rfl (am_narZ g15) hp
def f_X5_readAll (M : am_M) (o : Nat) : Option (Int32 × am_M) :=
  am_let (am_si M 5 o 0 27 (1 : Int32)) (fun M1 => am_let (am_si M1 5 o 0 21 (0 : Int32)) (fun M2 => (f_X5_look M2 o).bind (fun r4 => (f_X5_statement r4 o).bind (fun r6 => (if r6.1 = 0 then some ((0 : Int32), r6.2) else l_X5_readAll_23 o 1000 r6.2)))))
set_option maxHeartbeats 4000000 in
theorem w_X5_readAll {K : am_K} {d : Nat} {post : Option am_V → am_M → Prop} {M : am_M} {o : Nat} {y : Int32 × am_M} (h : f_X5_readAll M o = some y) (hp : post (some (.inl y.1)) y.2) : am_W K (d + 7) m_X5_readAll 0 [(0, .inr (.inr (5, o, 0)))] [] M post := by
  unfold f_X5_readAll at h
  refine am_aload_n dX5_readAll_0 rfl ?_
  refine am_iconst dX5_readAll_1 ic_1 ?_
  obtain ⟨M1, eM1, h⟩ := am_letE h
  refine am_putI dX5_readAll_2 fl_RX5_235 fp_X5_27 sh_5 rfl rfl rfl hk_5 ?_
  refine am_mem eM1 ?_
  refine am_aload_n dX5_readAll_5 rfl ?_
  refine am_iconst dX5_readAll_6 ic_0 ?_
  obtain ⟨M2, eM2, h⟩ := am_letE h
  refine am_putI dX5_readAll_7 fl_RX5_162 fp_X5_21 sh_5 rfl rfl rfl hk_5 ?_
  refine am_mem eM2 ?_
  refine am_aload_n dX5_readAll_10 rfl ?_
  obtain ⟨r4, c3, h⟩ := am_bnd h
  refine am_callVv (as := []) dX5_readAll_11 cv_RX5_198 cb_X5_look sh_5 rfl hk_5 rfl rfl (Nat.le_of_ble_eq_true rfl) (c_X5_look c3) ?_
  refine am_aload_n dX5_readAll_14 rfl ?_
  obtain ⟨r6, c5, h⟩ := am_bnd h
  refine am_callVi (as := []) dX5_readAll_15 cv_RX5_238 cb_X5_statement sh_5 rfl hk_5 rfl rfl (Nat.le_of_ble_eq_true rfl) (c_X5_statement c5) ?_
  refine am_if_ne 23 dX5_readAll_18 rfl (fun b18 => ?_) (fun b18 => ?_)
  · replace h := am_ifF b18 h
    exact am_drop [0] rfl (wl_X5_readAll_23 _ _ _ h hp)
  · replace h := am_ifT b18 h
    refine am_iconst dX5_readAll_21 ic_0 ?_
    obtain rfl := Option.some.inj h
    exact am_ireturn dX5_readAll_22 rfl (am_narZ (by decide)) hp
theorem c_X5_readAll {K : am_K} {d : Nat} {M : am_M} {o : Nat} {y : Int32 × am_M} (h : f_X5_readAll M o = some y) : am_Met K (d + 7) m_X5_readAll [.inr (.inr (5, o, 0))] M (fun q N => q = some (.inl y.1) ∧ N = y.2) :=
  am_Met_of cb_X5_readAll (Nat.le_of_ble_eq_true rfl) (w_X5_readAll h ⟨rfl, rfl⟩)
