def l_X5_seek_131 (rec : am_M → Nat → Int32 → Int32 → Int32 → Option am_M) (o0a : Nat) (a1 : Int32) (a2 : Int32) (a3 : Int32) : Nat → Int32 → am_M → Option (am_M)
  | 0, _, _ => none
  | n + 1, a4, M => (if (M.1 5 o0a 0 10) ≤ a4 then some M else ((if ((a2 >>> (a4 &&& 31)) &&& (1 : Int32)) = 0 then if am_inb a1 4 = true then am_let (am_si M 636 o0a 0 a1.toNatClampNeg a4) (fun M5 => (rec M5 o0a (a1 + (1 : Int32)) (a2 ||| ((1 : Int32) <<< (a4 &&& 31))) a3).bind (fun r7 => some r7)) else none else some M) : Option (am_M)).bind (fun z1 => am_let (a4 + (1 : Int32)) (fun v9 => l_X5_seek_131 rec o0a a1 a2 a3 n v9 z1)))
set_option maxHeartbeats 4000000 in
theorem wl_X5_seek_131 {K : am_K} {d : Nat} {post : Option am_V → am_M → Prop} {rec : am_M → Nat → Int32 → Int32 → Int32 → Option am_M} {o0a : Nat} {a1 : Int32} {a2 : Int32} {a3 : Int32} (hrec : ∀ N o a b c y, rec N o a b c = some y → am_Met K (d + 2) m_X5_seek [.inr (.inr (5, o, 0)), .inl a, .inl b, .inl c] N (fun q N => q = none ∧ N = y)) : ∀ (n : Nat) (a4 : Int32) (M : am_M) (x : am_M), l_X5_seek_131 rec o0a a1 a2 a3 n a4 M = some x → am_W K (d + 3) m_X5_seek 177 [] [] x post → am_W K (d + 3) m_X5_seek 131 [(0, .inr (.inr (5, o0a, 0))), (1, .inl a1), (2, .inl a2), (3, .inl a3), (4, .inl a4)] [] M post := by
  intro n
  induction n with
  | zero => intro a4 M x h KX; cases h
  | succ n ih =>
    intro a4 M x h KX
    rw [l_X5_seek_131] at h
    refine am_iload dX5_seek_131 rfl ?_
    refine am_aload_n dX5_seek_133 rfl ?_
    refine am_getI dX5_seek_134 fl_RX5_130 sh_5 rfl hk_5 ?_
    refine am_icmp_ge 177 dX5_seek_137 rfl (fun b10 => ?_) (fun b10 => ?_)
    · replace h := am_ifT b10 h
      obtain rfl := Option.some.inj h
      exact am_drop [] rfl KX
    · replace h := am_ifF b10 h
      refine am_iload_n dX5_seek_140 rfl ?_
      refine am_iload dX5_seek_141 rfl ?_
      refine am_ishr dX5_seek_143 ?_
      refine am_iconst dX5_seek_144 ic_1 ?_
      refine am_iand dX5_seek_145 ?_
      obtain ⟨z1, h2, h⟩ := am_bnd h
      have KK3 : am_W K (d + 3) m_X5_seek 171 [(0, .inr (.inr (5, o0a, 0))), (1, .inl a1), (2, .inl a2), (3, .inl a3), (4, .inl a4)] [] z1 post := by
        obtain ⟨v9, ev9, h⟩ := am_letE h
        refine am_iinc (ls' := [(0, .inr (.inr (5, o0a, 0))), (1, .inl a1), (2, .inl a2), (3, .inl a3), (4, .inl v9)]) dX5_seek_171 rfl ((congrArg (fun z => a4 + z) ic_1).trans ev9.symm) (Nat.le_of_ble_eq_true rfl) rfl ?_
        refine am_goto 131 dX5_seek_174 rfl ?_
        exact am_drop [0, 1, 2, 3, 4] rfl (ih _ _ _ h KX)
      clear h
      refine am_if_ne 171 dX5_seek_146 rfl (fun b8 => ?_) (fun b8 => ?_)
      · replace h2 := am_ifF b8 h2
        obtain rfl := Option.some.inj h2
        exact am_drop [0, 1, 2, 3, 4] rfl KK3
      · replace h2 := am_ifT b8 h2
        refine am_aload_n dX5_seek_149 rfl ?_
        refine am_getR (o' := o0a) dX5_seek_150 fl_RX5_87 sh_5 rfl rfl hk_5 ?_
        refine am_iload_n dX5_seek_153 rfl ?_
        refine am_iload dX5_seek_154 rfl ?_
        obtain ⟨g4, h2⟩ := am_grd h2
        obtain ⟨M5, eM5, h2⟩ := am_letE h2
        refine am_iastore dX5_seek_156 sh_636 hk_636 (am_inbE g4) ?_
        refine am_mem eM5 ?_
        refine am_aload_n dX5_seek_157 rfl ?_
        refine am_iload_n dX5_seek_158 rfl ?_
        refine am_iconst dX5_seek_159 ic_1 ?_
        refine am_iadd dX5_seek_160 ?_
        refine am_iload_n dX5_seek_161 rfl ?_
        refine am_iconst dX5_seek_162 ic_1 ?_
        refine am_iload dX5_seek_163 rfl ?_
        refine am_ishl dX5_seek_165 ?_
        refine am_ior dX5_seek_166 ?_
        refine am_iload_n dX5_seek_167 rfl ?_
        obtain ⟨r7, c6, h2⟩ := am_bnd h2
        refine am_callVv (as := [.inl (a1 + (1 : Int32)), .inl (a2 ||| ((1 : Int32) <<< (a4 &&& 31))), .inl a3]) dX5_seek_168 cv_RX5_348 cb_X5_seek sh_5 rfl hk_5 rfl rfl (Nat.le_of_ble_eq_true rfl) (hrec _ _ _ _ _ _ c6) ?_
        obtain rfl := Option.some.inj h2
        exact am_drop [0, 1, 2, 3, 4] rfl KK3
def l_X5_seek_11 (rec : am_M → Nat → Int32 → Int32 → Int32 → Option am_M) (o0a : Nat) (a3 : Int32) : Nat → Int32 → am_M → Option (am_M)
  | 0, _, _ => none
  | n + 1, a4, M => (if (M.1 5 o0a 0 10) ≤ a4 then some M else if am_inb a4 4 = true then if am_inb a4 4 = true then am_let (am_si M 613 o0a 0 a4.toNatClampNeg (M.1 636 o0a 0 a4.toNatClampNeg)) (fun M16 => am_let (a4 + (1 : Int32)) (fun v17 => l_X5_seek_11 rec o0a a3 n v17 M16)) else none else none)
set_option maxHeartbeats 4000000 in
theorem wl_X5_seek_11 {K : am_K} {d : Nat} {post : Option am_V → am_M → Prop} {rec : am_M → Nat → Int32 → Int32 → Int32 → Option am_M} {o0a : Nat} {a3 : Int32} (hrec : ∀ N o a b c y, rec N o a b c = some y → am_Met K (d + 2) m_X5_seek [.inr (.inr (5, o, 0)), .inl a, .inl b, .inl c] N (fun q N => q = none ∧ N = y)) : ∀ (n : Nat) (a4 : Int32) (M : am_M) (x : am_M), l_X5_seek_11 rec o0a a3 n a4 M = some x → am_W K (d + 3) m_X5_seek 40 [(0, .inr (.inr (5, o0a, 0))), (3, .inl a3)] [] x post → am_W K (d + 3) m_X5_seek 11 [(0, .inr (.inr (5, o0a, 0))), (3, .inl a3), (4, .inl a4)] [] M post := by
  intro n
  induction n with
  | zero => intro a4 M x h KX; cases h
  | succ n ih =>
    intro a4 M x h KX
    rw [l_X5_seek_11] at h
    refine am_iload dX5_seek_11 rfl ?_
    refine am_aload_n dX5_seek_13 rfl ?_
    refine am_getI dX5_seek_14 fl_RX5_130 sh_5 rfl hk_5 ?_
    refine am_icmp_ge 40 dX5_seek_17 rfl (fun b18 => ?_) (fun b18 => ?_)
    · replace h := am_ifT b18 h
      obtain rfl := Option.some.inj h
      exact am_drop [0, 3] rfl KX
    · replace h := am_ifF b18 h
      refine am_aload_n dX5_seek_20 rfl ?_
      refine am_getR (o' := o0a) dX5_seek_21 fl_RX5_46 sh_5 rfl rfl hk_5 ?_
      refine am_iload dX5_seek_24 rfl ?_
      refine am_aload_n dX5_seek_26 rfl ?_
      refine am_getR (o' := o0a) dX5_seek_27 fl_RX5_87 sh_5 rfl rfl hk_5 ?_
      refine am_iload dX5_seek_30 rfl ?_
      obtain ⟨g14, h⟩ := am_grd h
      refine am_iaload dX5_seek_32 sh_636 hk_636 (am_inbE g14) ?_
      obtain ⟨g15, h⟩ := am_grd h
      obtain ⟨M16, eM16, h⟩ := am_letE h
      refine am_iastore dX5_seek_33 sh_613 hk_613 (am_inbE g15) ?_
      refine am_mem eM16 ?_
      obtain ⟨v17, ev17, h⟩ := am_letE h
      refine am_iinc (ls' := [(0, .inr (.inr (5, o0a, 0))), (3, .inl a3), (4, .inl v17)]) dX5_seek_34 rfl ((congrArg (fun z => a4 + z) ic_1).trans ev17.symm) (Nat.le_of_ble_eq_true rfl) rfl ?_
      refine am_goto 11 dX5_seek_37 rfl ?_
      exact am_drop [0, 3, 4] rfl (ih _ _ _ h KX)
def l_X5_seek_98 (rec : am_M → Nat → Int32 → Int32 → Int32 → Option am_M) (o0a : Nat) : Nat → Int32 → am_M → Option (am_M)
  | 0, _, _ => none
  | n + 1, a6, M => (if (M.1 5 o0a 0 10) ≤ a6 then some M else if am_inb a6 4 = true then if am_inb a6 4 = true then am_let (am_si M 637 o0a 0 a6.toNatClampNeg (M.1 636 o0a 0 a6.toNatClampNeg)) (fun M31 => am_let (a6 + (1 : Int32)) (fun v32 => l_X5_seek_98 rec o0a n v32 M31)) else none else none)
set_option maxHeartbeats 4000000 in
theorem wl_X5_seek_98 {K : am_K} {d : Nat} {post : Option am_V → am_M → Prop} {rec : am_M → Nat → Int32 → Int32 → Int32 → Option am_M} {o0a : Nat} (hrec : ∀ N o a b c y, rec N o a b c = some y → am_Met K (d + 2) m_X5_seek [.inr (.inr (5, o, 0)), .inl a, .inl b, .inl c] N (fun q N => q = none ∧ N = y)) : ∀ (n : Nat) (a6 : Int32) (M : am_M) (x : am_M), l_X5_seek_98 rec o0a n a6 M = some x → am_W K (d + 3) m_X5_seek 127 [] [] x post → am_W K (d + 3) m_X5_seek 98 [(0, .inr (.inr (5, o0a, 0))), (6, .inl a6)] [] M post := by
  intro n
  induction n with
  | zero => intro a6 M x h KX; cases h
  | succ n ih =>
    intro a6 M x h KX
    rw [l_X5_seek_98] at h
    refine am_iload dX5_seek_98 rfl ?_
    refine am_aload_n dX5_seek_100 rfl ?_
    refine am_getI dX5_seek_101 fl_RX5_130 sh_5 rfl hk_5 ?_
    refine am_icmp_ge 127 dX5_seek_104 rfl (fun b33 => ?_) (fun b33 => ?_)
    · replace h := am_ifT b33 h
      obtain rfl := Option.some.inj h
      exact am_drop [] rfl KX
    · replace h := am_ifF b33 h
      refine am_aload_n dX5_seek_107 rfl ?_
      refine am_getR (o' := o0a) dX5_seek_108 fl_RX5_90 sh_5 rfl rfl hk_5 ?_
      refine am_iload dX5_seek_111 rfl ?_
      refine am_aload_n dX5_seek_113 rfl ?_
      refine am_getR (o' := o0a) dX5_seek_114 fl_RX5_87 sh_5 rfl rfl hk_5 ?_
      refine am_iload dX5_seek_117 rfl ?_
      obtain ⟨g29, h⟩ := am_grd h
      refine am_iaload dX5_seek_119 sh_636 hk_636 (am_inbE g29) ?_
      obtain ⟨g30, h⟩ := am_grd h
      obtain ⟨M31, eM31, h⟩ := am_letE h
      refine am_iastore dX5_seek_120 sh_637 hk_637 (am_inbE g30) ?_
      refine am_mem eM31 ?_
      obtain ⟨v32, ev32, h⟩ := am_letE h
      refine am_iinc (ls' := [(0, .inr (.inr (5, o0a, 0))), (6, .inl v32)]) dX5_seek_121 rfl ((congrArg (fun z => a6 + z) ic_1).trans ev32.symm) (Nat.le_of_ble_eq_true rfl) rfl ?_
      refine am_goto 98 dX5_seek_124 rfl ?_
      exact am_drop [0, 6] rfl (ih _ _ _ h KX)
def b_X5_seek_84 (M : am_M) (rec : am_M → Nat → Int32 → Int32 → Int32 → Option am_M) (o0a : Nat) (a4 : Int64) : Option (am_M) :=
  am_let (am_si M 5 o0a 0 39 (0 : Int32)) (fun M43 => am_let (am_sl M43 5 o0a 0 38 a4) (fun M44 => (l_X5_seek_98 rec o0a 1000 (0 : Int32) M44).bind (fun z45 => some z45)))
set_option maxHeartbeats 4000000 in
theorem wb_X5_seek_84 {K : am_K} {d : Nat} {post : Option am_V → am_M → Prop} {M : am_M} {rec : am_M → Nat → Int32 → Int32 → Int32 → Option am_M} {o0a : Nat} {a4 : Int64} (hrec : ∀ N o a b c y, rec N o a b c = some y → am_Met K (d + 2) m_X5_seek [.inr (.inr (5, o, 0)), .inl a, .inl b, .inl c] N (fun q N => q = none ∧ N = y)) {y : am_M} (h : b_X5_seek_84 M rec o0a a4 = some y) (hp : post none y) : am_W K (d + 3) m_X5_seek 84 [(0, .inr (.inr (5, o0a, 0))), (4, .inr (.inl a4))] [] M post := by
  unfold b_X5_seek_84 at h
  refine am_aload_n dX5_seek_84 rfl ?_
  refine am_iconst dX5_seek_85 ic_0 ?_
  obtain ⟨M43, eM43, h⟩ := am_letE h
  refine am_putI dX5_seek_86 fl_RX5_340 fp_X5_39 sh_5 rfl (am_narZ (by decide)) (am_fitZ (by decide)) hk_5 ?_
  refine am_mem eM43 ?_
  refine am_aload_n dX5_seek_89 rfl ?_
  refine am_lload dX5_seek_90 rfl ?_
  obtain ⟨M44, eM44, h⟩ := am_letE h
  refine am_putL dX5_seek_92 fl_RX5_344 fp_X5_38 sh_5 rfl rfl rfl hk_5 ?_
  refine am_mem eM44 ?_
  refine am_iconst dX5_seek_95 ic_0 ?_
  refine am_istore (ls' := [(0, .inr (.inr (5, o0a, 0))), (4, .inr (.inl a4)), (6, .inl (0 : Int32))]) dX5_seek_96 (Nat.le_of_ble_eq_true rfl) rfl ?_
  obtain ⟨z45, h46, h⟩ := am_bnd h
  have KK47 : am_W K (d + 3) m_X5_seek 127 [] [] z45 post := by
    obtain rfl := Option.some.inj h
    exact am_return dX5_seek_127 rfl hp
  exact am_drop [0, 6] rfl (wl_X5_seek_98 hrec _ _ _ _ h46 KK47)
def f_X5_seekF (M : am_M) (rec : am_M → Nat → Int32 → Int32 → Int32 → Option am_M) (o : Nat) (x1 : Int32) (x2 : Int32) (x3 : Int32) : Option (am_M) :=
  (if x1 = (M.1 5 o 0 10) then (l_X5_seek_11 rec o x3 1000 (0 : Int32) M).bind (fun z19 => (f_X5_seeHeaps z19 o).bind (fun r23 => (f_X5_spentNow r23 o).bind (fun r25 => am_let r25.1 (fun v26 => (if (r25.2.1 5 o 0 39) = 0 then (if x3 = 0 then (if 0 ≤ (lg_cmp v26 (r25.2.2 5 o 0 38)) then some r25.2 else am_let (am_si r25.2 5 o 0 39 (0 : Int32)) (fun M37 => am_let (am_sl M37 5 o 0 38 v26) (fun M38 => (l_X5_seek_98 rec o 1000 (0 : Int32) M38).bind (fun z39 => some z39)))) else (if (lg_cmp v26 (r25.2.2 5 o 0 38)) ≤ 0 then some r25.2 else b_X5_seek_84 r25.2 rec o v26)) else am_let (am_si r25.2 5 o 0 39 (0 : Int32)) (fun M27 => am_let (am_sl M27 5 o 0 38 v26) (fun M28 => (l_X5_seek_98 rec o 1000 (0 : Int32) M28).bind (fun z34 => some z34)))))))) else (l_X5_seek_131 rec o x1 x2 x3 1000 (0 : Int32) M).bind (fun z11 => some z11))
set_option maxHeartbeats 4000000 in
theorem w_X5_seek {K : am_K} {d : Nat} {post : Option am_V → am_M → Prop} {M : am_M} {rec : am_M → Nat → Int32 → Int32 → Int32 → Option am_M} {o : Nat} {x1 : Int32} {x2 : Int32} {x3 : Int32} (hrec : ∀ N o a b c y, rec N o a b c = some y → am_Met K (d + 2) m_X5_seek [.inr (.inr (5, o, 0)), .inl a, .inl b, .inl c] N (fun q N => q = none ∧ N = y)) {y : am_M} (h : f_X5_seekF M rec o x1 x2 x3 = some y) (hp : post none y) : am_W K (d + 3) m_X5_seek 0 [(0, .inr (.inr (5, o, 0))), (1, .inl x1), (2, .inl x2), (3, .inl x3)] [] M post := by
  unfold f_X5_seekF at h
  refine am_iload_n dX5_seek_0 rfl ?_
  refine am_aload_n dX5_seek_1 rfl ?_
  refine am_getI dX5_seek_2 fl_RX5_130 sh_5 rfl hk_5 ?_
  refine am_icmp_ne 128 dX5_seek_5 rfl (fun b51 => ?_) (fun b51 => ?_)
  · replace h := am_ifF b51 h
    refine am_iconst dX5_seek_128 ic_0 ?_
    refine am_istore (ls' := [(0, .inr (.inr (5, o, 0))), (1, .inl x1), (2, .inl x2), (3, .inl x3), (4, .inl (0 : Int32))]) dX5_seek_129 (Nat.le_of_ble_eq_true rfl) rfl ?_
    obtain ⟨z11, h12, h⟩ := am_bnd h
    have KK13 : am_W K (d + 3) m_X5_seek 177 [] [] z11 post := by
      obtain rfl := Option.some.inj h
      exact am_return dX5_seek_177 rfl hp
    exact am_drop [0, 1, 2, 3, 4] rfl (wl_X5_seek_131 hrec _ _ _ _ h12 KK13)
  · replace h := am_ifT b51 h
    refine am_iconst dX5_seek_8 ic_0 ?_
    refine am_istore (ls' := [(0, .inr (.inr (5, o, 0))), (1, .inl x1), (2, .inl x2), (3, .inl x3), (4, .inl (0 : Int32))]) dX5_seek_9 (Nat.le_of_ble_eq_true rfl) rfl ?_
    obtain ⟨z19, h20, h⟩ := am_bnd h
    have KK21 : am_W K (d + 3) m_X5_seek 40 [(0, .inr (.inr (5, o, 0))), (3, .inl x3)] [] z19 post := by
      refine am_aload_n dX5_seek_40 rfl ?_
      obtain ⟨r23, c22, h⟩ := am_bnd h
      refine am_callVv (as := []) dX5_seek_41 cv_RX5_263 cb_X5_seeHeaps sh_5 rfl hk_5 rfl rfl (Nat.le_of_ble_eq_true rfl) (c_X5_seeHeaps c22) ?_
      refine am_aload_n dX5_seek_44 rfl ?_
      obtain ⟨r25, c24, h⟩ := am_bnd h
      refine am_callVl (as := []) dX5_seek_45 cv_RX5_316 cb_X5_spentNow sh_5 rfl hk_5 rfl rfl (Nat.le_of_ble_eq_true rfl) (c_X5_spentNow c24) ?_
      obtain ⟨v26, ev26, h⟩ := am_letE h
      refine am_topL ev26 ?_
      refine am_lstore (ls' := [(0, .inr (.inr (5, o, 0))), (3, .inl x3), (4, .inr (.inl v26))]) dX5_seek_48 (Nat.le_of_ble_eq_true rfl) rfl ?_
      refine am_aload_n dX5_seek_50 rfl ?_
      refine am_getI dX5_seek_51 fl_RX5_340 sh_5 rfl hk_5 ?_
      refine am_if_ne 84 dX5_seek_54 rfl (fun b50 => ?_) (fun b50 => ?_)
      · replace h := am_ifF b50 h
        refine am_aload_n dX5_seek_84 rfl ?_
        refine am_iconst dX5_seek_85 ic_0 ?_
        obtain ⟨M27, eM27, h⟩ := am_letE h
        refine am_putI dX5_seek_86 fl_RX5_340 fp_X5_39 sh_5 rfl (am_narZ (by decide)) (am_fitZ (by decide)) hk_5 ?_
        refine am_mem eM27 ?_
        refine am_aload_n dX5_seek_89 rfl ?_
        refine am_lload dX5_seek_90 rfl ?_
        obtain ⟨M28, eM28, h⟩ := am_letE h
        refine am_putL dX5_seek_92 fl_RX5_344 fp_X5_38 sh_5 rfl rfl rfl hk_5 ?_
        refine am_mem eM28 ?_
        refine am_iconst dX5_seek_95 ic_0 ?_
        refine am_istore (ls' := [(0, .inr (.inr (5, o, 0))), (3, .inl x3), (4, .inr (.inl v26)), (6, .inl (0 : Int32))]) dX5_seek_96 (Nat.le_of_ble_eq_true rfl) rfl ?_
        obtain ⟨z34, h35, h⟩ := am_bnd h
        have KK36 : am_W K (d + 3) m_X5_seek 127 [] [] z34 post := by
          obtain rfl := Option.some.inj h
          exact am_return dX5_seek_127 rfl hp
        exact am_drop [0, 6] rfl (wl_X5_seek_98 hrec _ _ _ _ h35 KK36)
      · replace h := am_ifT b50 h
        refine am_iload_n dX5_seek_57 rfl ?_
        refine am_if_eq 74 dX5_seek_58 rfl (fun b49 => ?_) (fun b49 => ?_)
        · replace h := am_ifT b49 h
          refine am_lload dX5_seek_74 rfl ?_
          refine am_aload_n dX5_seek_76 rfl ?_
          refine am_getL dX5_seek_77 fl_RX5_344 sh_5 rfl hk_5 ?_
          refine am_lcmp dX5_seek_80 ?_
          refine am_if_ge 127 dX5_seek_81 rfl (fun b42 => ?_) (fun b42 => ?_)
          · replace h := am_ifT b42 h
            obtain rfl := Option.some.inj h
            exact am_return dX5_seek_127 rfl hp
          · replace h := am_ifF b42 h
            refine am_aload_n dX5_seek_84 rfl ?_
            refine am_iconst dX5_seek_85 ic_0 ?_
            obtain ⟨M37, eM37, h⟩ := am_letE h
            refine am_putI dX5_seek_86 fl_RX5_340 fp_X5_39 sh_5 rfl (am_narZ (by decide)) (am_fitZ (by decide)) hk_5 ?_
            refine am_mem eM37 ?_
            refine am_aload_n dX5_seek_89 rfl ?_
            refine am_lload dX5_seek_90 rfl ?_
            obtain ⟨M38, eM38, h⟩ := am_letE h
            refine am_putL dX5_seek_92 fl_RX5_344 fp_X5_38 sh_5 rfl rfl rfl hk_5 ?_
            refine am_mem eM38 ?_
            refine am_iconst dX5_seek_95 ic_0 ?_
            refine am_istore (ls' := [(0, .inr (.inr (5, o, 0))), (3, .inl x3), (4, .inr (.inl v26)), (6, .inl (0 : Int32))]) dX5_seek_96 (Nat.le_of_ble_eq_true rfl) rfl ?_
            obtain ⟨z39, h40, h⟩ := am_bnd h
            have KK41 : am_W K (d + 3) m_X5_seek 127 [] [] z39 post := by
              obtain rfl := Option.some.inj h
              exact am_return dX5_seek_127 rfl hp
            exact am_drop [0, 6] rfl (wl_X5_seek_98 hrec _ _ _ _ h40 KK41)
        · replace h := am_ifF b49 h
          refine am_lload dX5_seek_61 rfl ?_
          refine am_aload_n dX5_seek_63 rfl ?_
          refine am_getL dX5_seek_64 fl_RX5_344 sh_5 rfl hk_5 ?_
          refine am_lcmp dX5_seek_67 ?_
          refine am_if_le 127 dX5_seek_68 rfl (fun b48 => ?_) (fun b48 => ?_)
          · replace h := am_ifT b48 h
            obtain rfl := Option.some.inj h
            exact am_return dX5_seek_127 rfl hp
          · replace h := am_ifF b48 h
            refine am_goto 84 dX5_seek_71 rfl ?_
            exact am_drop [0, 4] rfl (wb_X5_seek_84 hrec h hp)
    exact am_drop [0, 3, 4] rfl (wl_X5_seek_11 hrec _ _ _ _ h20 KK21)
def f_X5_seek : Nat → am_M → Nat → Int32 → Int32 → Int32 → Option am_M
  | 0, _, _, _, _, _ => none
  | n + 1, M, o, a, b, c => f_X5_seekF M (f_X5_seek n) o a b c
theorem c_X5_seek {K : am_K} : ∀ (n d : Nat) (M : am_M) (o : Nat) (a b c : Int32) (y : am_M), f_X5_seek n M o a b c = some y → am_Met K (d + n + 2) m_X5_seek [.inr (.inr (5, o, 0)), .inl a, .inl b, .inl c] M (fun q N => q = none ∧ N = y) := by
  intro n
  induction n with
  | zero => intro d M o a b c y h; cases h
  | succ n ih =>
    intro d M o a b c y h
    have h' : f_X5_seekF M (f_X5_seek n) o a b c = some y := h
    exact am_Met_of (d := d + n + 3) cb_X5_seek (Nat.le_of_ble_eq_true rfl) (w_X5_seek (d := d + n) (fun N o a b c y hy => ih d N o a b c y hy) h' ⟨rfl, rfl⟩)
