/-! the texts' own methods: length, charAt (four words of four letters) -/
def am_ch (t : Nat) (x : Int32) : Int32 := (am_sby.getD t []).getD x.toNatClampNeg 0
def f_J0_length_8abf5 (_ : am_M) (_ : Nat) : Option Int32 := some 4
def f_J0_charAt_5068e (_ : am_M) (t : Nat) (x : Int32) : Option Int32 := if am_inb x 4 = true then some (am_ch t x) else none
theorem am_sln4 : ∀ t, t < 4 → am_sln.getD t 0 = 4 := by decide
theorem am_X_B {K : am_K} {U : State} {t : Nat} (ht : t < 4) (h : am_X K U) : va_T .byte (am_ad K (9101, t, 0)) 4 (fun j => .int ((am_sby.getD t []).getD j 0)) (am_A K) U U.heap := by
  have h1 := ((am_X_S h).1 t ht).2.2.2
  rw [am_sln4 t ht] at h1
  exact h1
theorem c_J0_coder {K : am_K} {d : Nat} {M : am_M} {t : Nat} (ht : t < 4) : am_Met K d m_J0_coder_7d493 [.inr (.inr (9100, t, 0))] M (fun q N => q = some (.inl 0) ∧ N = M) := by
  refine am_Met_of cb_J0_coder_7d493 (Nat.le_of_ble_eq_true rfl) ?_
  show am_W K d m_J0_coder_7d493 0 [(0, .inr (.inr (9100, t, 0)))] [] M _
  refine am_getsI (v := 1) dJ0_coder_7d493_0 fs_RJ0_38 (fun U hU => hU.2.2.2.2.2.2.1) ?_
  refine am_if_eq 13 dJ0_coder_7d493_3 rfl (fun h => absurd h (by decide)) (fun _ => ?_)
  refine am_aload_n dJ0_coder_7d493_6 rfl ?_
  refine am_getSC ht dJ0_coder_7d493_7 fs_RJ0_15 ?_
  refine am_goto 14 dJ0_coder_7d493_10 rfl ?_
  exact am_ireturn dJ0_coder_7d493_14 rfl (by decide +kernel) ⟨rfl, rfl⟩
theorem c_J0_isLatin1 {K : am_K} {d : Nat} {M : am_M} {t : Nat} (ht : t < 4) : am_Met K d m_J0_isLatin1_aae02 [.inr (.inr (9100, t, 0))] M (fun q N => q = some (.inl 1) ∧ N = M) := by
  refine am_Met_of cb_J0_isLatin1_aae02 (Nat.le_of_ble_eq_true rfl) ?_
  show am_W K d m_J0_isLatin1_aae02 0 [(0, .inr (.inr (9100, t, 0)))] [] M _
  refine am_getsI (v := 1) dJ0_isLatin1_aae02_0 fs_RJ0_38 (fun U hU => hU.2.2.2.2.2.2.1) ?_
  refine am_if_eq 17 dJ0_isLatin1_aae02_3 rfl (fun h => absurd h (by decide)) (fun _ => ?_)
  refine am_aload_n dJ0_isLatin1_aae02_6 rfl ?_
  refine am_getSC ht dJ0_isLatin1_aae02_7 fs_RJ0_15 ?_
  refine am_if_ne 17 dJ0_isLatin1_aae02_10 rfl (fun h => absurd rfl h) (fun _ => ?_)
  refine am_iconst dJ0_isLatin1_aae02_13 ic_1 ?_
  refine am_goto 18 dJ0_isLatin1_aae02_14 rfl ?_
  exact am_ireturn dJ0_isLatin1_aae02_18 rfl (am_narZ (by decide)) ⟨rfl, rfl⟩
theorem c_J0_length_8abf5 {K : am_K} {d : Nat} {M : am_M} {t : Nat} {y : Int32} (ht : t < 4) (h : f_J0_length_8abf5 M t = some y) : am_Met K (d + 1) m_J0_length_8abf5 [.inr (.inr (9100, t, 0))] M (fun q N => q = some (.inl y) ∧ N = M) := by
  refine am_Met_of cb_J0_length_8abf5 (Nat.le_of_ble_eq_true rfl) ?_
  show am_W K (d + 1) m_J0_length_8abf5 0 [(0, .inr (.inr (9100, t, 0)))] [] M _
  have hy : (4 : Int32) = y := Option.some.inj h
  refine am_aload_n dJ0_length_8abf5_0 rfl ?_
  refine am_getSV ht dJ0_length_8abf5_1 fs_RJ0_9 ?_
  refine am_tabN dJ0_length_8abf5_4 (fun U hU => am_X_B ht hU) on_4 ?_
  refine am_aload_n dJ0_length_8abf5_5 rfl ?_
  refine am_callTi (as := []) dJ0_length_8abf5_6 cv_RJ0_335 cb_J0_coder_7d493 ht rfl rfl rfl (Nat.le_of_ble_eq_true rfl) (c_J0_coder ht) ?_
  refine am_ishr dJ0_length_8abf5_9 ?_
  refine am_topI (w := y) (by rw [← hy]; decide +kernel) ?_
  exact am_ireturn dJ0_length_8abf5_10 rfl rfl ⟨rfl, rfl⟩
/-- Preconditions.checkIndex, its third value whatever it is -/
theorem am_metJ3 {K : am_K} {d : Nat} {M : am_M} {x n : Int32} (v : Value) (hv : v.category = 1) (h0 : ¬ x < 0) (h1 : x < n) : Met (am_l K) m_J3_checkIndex_8e157.2.1 (am_tw m_J3_checkIndex_8e157) (am_R d) (va_Pc [.int x, .int n, v] (fun U => am_ok K ∧ va_P (am_D K) vwCl (am_ws K M) U.heap ∧ va_K (am_D K) vwCl (am_tys K) U ∧ am_X K U)) (am_Q K (fun q N => q = some (.inl x) ∧ N = M)) 0 0 (am_A K) := by
  refine Met.ofW (cc := m_J3_checkIndex_8e157.2.2.1) (maxL := 3) (ret := some .int) cb_J3_checkIndex_8e157.2.2.2.2.1 rfl ?_
  intro p e s m args below meth c s₁ B hml hv0
  obtain ⟨rfl, hK, hP, hKs, hX⟩ := hv0
  have hts := atoms_spec (ws := am_tw m_J3_checkIndex_8e157) B.pre
  have hown : s.vm.findClass m_J3_checkIndex_8e157.1 = some m.cls := findClass_of_methodNamed B.named
  have hl := lv_entry ([.int x, .int n, v]) (n := 3) (by have e1 : (Value.int x).category = 1 := rfl; have e2 : (Value.int n).category = 1 := rfl; simp [lg_sl, hv, e1, e2])
  rw [lg_entry_eq]
  have hW : am_W K d m_J3_checkIndex_8e157 0 [(0, .inl x), (1, .inl n)] [] M (fun q N => q = some (.inl x) ∧ N = M) := by
    refine am_iload_n dJ3_checkIndex_8e157_0 rfl ?_
    refine am_if_lt 9 dJ3_checkIndex_8e157_1 rfl (fun h => absurd h h0) (fun _ => ?_)
    refine am_iload_n dJ3_checkIndex_8e157_4 rfl ?_
    refine am_iload_n dJ3_checkIndex_8e157_5 rfl ?_
    refine am_icmp_lt 16 dJ3_checkIndex_8e157_6 rfl (fun _ => ?_) (fun h => absurd h1 h)
    refine am_iload_n dJ3_checkIndex_8e157_16 rfl ?_
    exact am_ireturn dJ3_checkIndex_8e157_17 rfl rfl ⟨rfl, rfl⟩
  refine hW p e s m _ below meth c s.heap [] _ hK ⟨B.exec, B.bytes, B.returns, hml, hown, fun w hw => hts w (List.mem_cons_of_mem _ hw), B.notSynchronized, hKs, hX⟩ hP va_S.rf (hl.less fun q hq => ?_) (fun q hq => ?_) (fun v hv => absurd hv List.not_mem_nil)
  · rcases List.mem_cons.mp hq with e1 | e1
    · rw [e1]; exact List.mem_cons_self
    · rcases List.mem_cons.mp e1 with e2 | e2
      · rw [e2]; exact List.mem_cons_of_mem _ List.mem_cons_self
      · exact absurd e2 List.not_mem_nil
  · rcases List.mem_cons.mp hq with e1 | e1
    · rw [e1]; trivial
    · rcases List.mem_cons.mp e1 with e2 | e2
      · rw [e2]; trivial
      · exact absurd e2 List.not_mem_nil
theorem c_J0_checkIndex {K : am_K} {d : Nat} {M : am_M} {x n : Int32} (h0 : ¬ x < 0) (h1 : x < n) : am_Met K (d + 1) m_J0_checkIndex_df160 [.inl x, .inl n] M (fun q N => q = none ∧ N = M) := by
  refine am_Met_of cb_J0_checkIndex_df160 (Nat.le_of_ble_eq_true rfl) ?_
  show am_W K (d + 1) m_J0_checkIndex_df160 0 [(0, .inl x), (1, .inl n)] [] M _
  refine am_iload_n dJ0_checkIndex_df160_0 rfl ?_
  refine am_iload_n dJ0_checkIndex_df160_1 rfl ?_
  have kk : am_W K (d + 1) m_J0_checkIndex_df160 8 [(0, .inl x), (1, .inl n)] [.inl x] M (fun q N => q = none ∧ N = M) := by
    refine am_pop dJ0_checkIndex_df160_8 rfl ?_
    exact am_return dJ0_checkIndex_df160_9 rfl ⟨rfl, rfl⟩
  intro p e s m args below meth c H locs la hK hI hP hS hl hlk hsk
  have ht := hI.2.2.2.2.2.1
  have hX := hI.2.2.2.2.2.2.2.2
  have key : ∀ v : Value, v.category = 1 → va_Z "jdk/internal/util/Preconditions" "SIOOBE_FORMATTER" "Ljava/util/function/BiFunction;" v (am_A K) s s.heap → W p (am_l K) e (am_R (d + 1)) s m args below meth c H locs 0 0 (MQ below (am_Q K (fun q N => q = none ∧ N = M)) args s 0 0 (am_A K)) (F0 m 2 la [.int n, .int x]) := by
    intro v hv hZ
    refine va_gets hI.1 hI.2.1 hZ hS hI.2.2.2.2.1 (ht _ fs_RJ0_1053) (fun _ h => h) dJ0_checkIndex_df160_2 ?_
    have hB := cb_J3_checkIndex_8e157
    have hcb : CallB (am_R (d + 1)) s args m_J0_checkIndex_df160.1 1059 m_J3_checkIndex_8e157.2.1 m_J3_checkIndex_8e157.2.2.1 m_J3_checkIndex_8e157.2.2.2.1 m_J3_checkIndex_8e157.2.2.2.2 (am_tw m_J3_checkIndex_8e157) (am_R d) 0 0 3 :=
      callB_of 3 ht (am_twG hB) rfl rfl rfl (by rw [hB.2.2.1]; exact ht _ hB.1) (ht _ cs_RJ0_1059.1) hB.2.2.2.1 (am_rm hB.2.2.2.2.2)
    have hrun := va_runS (As := [.int x, .int n, v]) (rest := ([] : List am_V).map (am_v K)) (H := H) (g := F0 m 5 la [v, .int n, .int x]) (cells := 0) (slots := 0) (locs := locs) (e := e) (below := below) (meth := meth)
      ⟨hI.1, hI.2.1, hI.2.2.2.1, hI.2.2.2.2.1, ht⟩ (am_metJ3 (K := K) (d := d) (M := M) v hv h0 h1) ⟨hcb, ht _ cs_RJ0_1059.2⟩ ⟨fun a U g mk q => ?_, fun U hU hW => ?_⟩ rfl rfl hl.1 rfl (lv_room (Nat.zero_le _)) dJ0_checkIndex_df160_5 ⟨Nat.le_refl _, Nat.le_refl _⟩
    · exact am_after (st := []) (pc := 5) hrun hK hI hS hl hlk (fun v hv => absurd hv List.not_mem_nil) (fun q N hq => by obtain ⟨rfl, rfl⟩ := hq; exact kk)
    · obtain ⟨q0, q1, q3, q4, q5⟩ := q
      exact ⟨q0, q1, q3, va_K.moved (u := U) (U := U.calling g mk a) (Vm.Alike.refl U.vm) q4, am_X_call g mk a q5⟩
    · subst hU
      exact ⟨rfl, hK, hP, va_K.moved hW.alike hI.2.2.2.2.2.2.2.1, am_X_next hW hS hX⟩
  rcases hX.2.2.2.2.2.2.2.1 with h | ⟨t, h⟩
  · exact key .null rfl h
  · exact key (.ref t) rfl h
theorem am_chB : ∀ t, t < 4 → ∀ j, j < 4 → (((am_sby.getD t []).getD j 0 &&& 255).toUInt32 % 65536).toInt32 = (am_sby.getD t []).getD j 0 ∧ narrow .char (.int ((am_sby.getD t []).getD j 0)) = .int ((am_sby.getD t []).getD j 0) := by decide +kernel
theorem c_J1_charAt {K : am_K} {d : Nat} {M : am_M} {t : Nat} {x : Int32} (ht : t < 4) (hx : am_inb x 4 = true) : am_Met K (d + 2) m_J1_charAt_3b067 [.inr (.inr (9101, t, 0)), .inl x] M (fun q N => q = some (.inl (am_ch t x)) ∧ N = M) := by
  refine am_Met_of cb_J1_charAt_3b067 (Nat.le_of_ble_eq_true rfl) ?_
  show am_W K (d + 2) m_J1_charAt_3b067 0 [(0, .inr (.inr (9101, t, 0))), (1, .inl x)] [] M _
  obtain ⟨j, hj, rfl⟩ := vp_in_of (am_inbE hx) (by decide)
  have hch := am_chB t ht j hj
  have e : (nI j).toNatClampNeg = j := nI_clamp (by omega)
  refine am_iload_n dJ1_charAt_3b067_0 rfl ?_
  refine am_aload_n dJ1_charAt_3b067_1 rfl ?_
  refine am_tabN dJ1_charAt_3b067_2 (fun U hU => am_X_B ht hU) on_4 ?_
  refine am_callSv (as := [.inl (nI j), .inl 4]) dJ1_charAt_3b067_3 cs_RJ1_9 cb_J0_checkIndex_df160 rfl rfl (Nat.le_of_ble_eq_true rfl) (c_J0_checkIndex (nI_pos (by omega)) (nI_lt (a := j) (b := 4) hj (by decide))) ?_
  refine am_aload_n dJ1_charAt_3b067_6 rfl ?_
  refine am_iload_n dJ1_charAt_3b067_7 rfl ?_
  refine am_tabB (f := fun j => (am_sby.getD t []).getD j 0) dJ1_charAt_3b067_8 (fun U hU => am_X_B ht hU) (am_inbE hx) ?_
  refine am_sipush dJ1_charAt_3b067_9 sp_255 ?_
  refine am_iand dJ1_charAt_3b067_12 ?_
  refine am_i2c dJ1_charAt_3b067_13 ?_
  refine am_topI (w := am_ch t (nI j)) (by unfold am_ch; rw [e]; exact hch.1.symm) ?_
  exact am_ireturn dJ1_charAt_3b067_14 rfl (by unfold am_ch; rw [e]; exact hch.2) ⟨rfl, rfl⟩
theorem c_J0_charAt_5068e {K : am_K} {d : Nat} {M : am_M} {t : Nat} {x y : Int32} (ht : t < 4) (h : f_J0_charAt_5068e M t x = some y) : am_Met K (d + 4) m_J0_charAt_5068e [.inr (.inr (9100, t, 0)), .inl x] M (fun q N => q = some (.inl y) ∧ N = M) := by
  refine am_Met_of cb_J0_charAt_5068e (Nat.le_of_ble_eq_true rfl) ?_
  show am_W K (d + 4) m_J0_charAt_5068e 0 [(0, .inr (.inr (9100, t, 0))), (1, .inl x)] [] M _
  obtain ⟨hx, h⟩ := am_grd h
  cases h
  obtain ⟨j, hj, rfl⟩ := vp_in_of (am_inbE hx) (by decide)
  have hch := am_chB t ht j hj
  have e : (nI j).toNatClampNeg = j := nI_clamp (by omega)
  refine am_aload_n dJ0_charAt_5068e_0 rfl ?_
  refine am_callTi (as := []) dJ0_charAt_5068e_1 cv_RJ0_492 cb_J0_isLatin1_aae02 ht rfl rfl rfl (Nat.le_of_ble_eq_true rfl) (c_J0_isLatin1 ht) ?_
  refine am_if_eq 16 dJ0_charAt_5068e_4 rfl (fun h => absurd h (by decide)) (fun _ => ?_)
  refine am_aload_n dJ0_charAt_5068e_7 rfl ?_
  refine am_getSV ht dJ0_charAt_5068e_8 fs_RJ0_9 ?_
  refine am_iload_n dJ0_charAt_5068e_11 rfl ?_
  refine am_callSi (as := [.inr (.inr (9101, t, 0)), .inl (nI j)]) dJ0_charAt_5068e_12 cs_RJ0_495 cb_J1_charAt_3b067 rfl rfl (Nat.le_of_ble_eq_true rfl) (c_J1_charAt ht hx) ?_
  exact am_ireturn dJ0_charAt_5068e_15 rfl (by unfold am_ch; rw [e]; exact hch.2) ⟨rfl, rfl⟩
