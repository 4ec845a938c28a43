/-! copies of rows; the two tables; texts -/
def am_ri (M : am_M) (k o i : Nat) (f : Nat → Int32) : am_M := (fun k' o' i' j' => if k' = k ∧ o' = o ∧ i' = i then f j' else M.1 k' o' i' j', M.2)
def am_rl (M : am_M) (k o i : Nat) (f : Nat → Int64) : am_M := (M.1, fun k' o' i' j' => if k' = k ∧ o' = o ∧ i' = i then f j' else M.2 k' o' i' j')
theorem am_ri_e {K : am_K} {M : am_M} {k o i : Nat} {f : Nat → Int32} {r : am_L} (h : r ≠ (k, o, i)) : am_e K (am_ri M k o i f) r = am_e K M r :=
  am_e_cong (fun j' => by
    have hn : ¬ (r.1 = k ∧ r.2.1 = o ∧ r.2.2 = i) := fun z => h (by rw [← z.1, ← z.2.1, ← z.2.2])
    simp [am_ri, hn]) (fun _ => rfl)
theorem am_rl_e {K : am_K} {M : am_M} {k o i : Nat} {f : Nat → Int64} {r : am_L} (h : r ≠ (k, o, i)) : am_e K (am_rl M k o i f) r = am_e K M r :=
  am_e_cong (fun _ => rfl) (fun j' => by
    have hn : ¬ (r.1 = k ∧ r.2.1 = o ∧ r.2.2 = i) := fun z => h (by rw [← z.1, ← z.2.1, ← z.2.2])
    simp [am_rl, hn])
def am_CC (own : String) (idx : Nat) : Prop := Cond.methodLink own idx arraycopyName ∈ am_T ∧ Cond.native arraycopyName ∈ am_T ∧ Cond.static arraycopyName ∈ am_T ∧ Cond.initialized "java/lang/System" ∈ am_T
theorem am_nfw : nativeFrameWords "java/lang/System" "arraycopy" 5 ≤ 40 := by decide +kernel
/-- a method of Math -/
def am_CM (own : String) (idx : Nat) (y : MethodName) (cc : ByteArray) (n : Nat) : Prop := Cond.methodLink own idx y ∈ am_T ∧ Cond.static y ∈ am_T ∧ Cond.initialized "java/lang/Math" ∈ am_T ∧ Cond.code y cc n (some .int) ∈ am_T
section AMX
variable {K : am_K} {d : Nat} {mi : am_Mi} {pc : Nat} {ls : List (Nat × am_V)} {st : List am_V} {M : am_M} {post : Option am_V → am_M → Prop}
theorem am_copyI {idx k o i k' o' i' n0 n1 : Nat} {sp dp n : Int32} (hd : decode mi.2.2.1 pc = .ok (.invokestatic idx, 3)) (hc : am_CC mi.1 idx) (hs : am_sh k = .inr (.inl (0, n0))) (hs' : am_sh k' = .inr (.inl (0, n1))) (hk : k < 9000) (hk' : k' < 9000) (h1 : ¬ sp < 0) (h2 : ¬ dp < 0) (h3 : ¬ n < 0) (h4 : sp.toNatClampNeg + n.toNatClampNeg ≤ n0) (h5 : dp.toNatClampNeg + n.toNatClampNeg ≤ n1) (hw : (st.map am_cat).sum ≤ 8)
    (kk : am_W K (d + 1) mi (pc + 3) ls st (am_ri M k' o' i' (va_cpy (fun j => M.1 k o i j) (fun j => M.1 k' o' i' j) sp.toNatClampNeg dp.toNatClampNeg n.toNatClampNeg)) post) : am_W K (d + 1) mi pc ls (.inl n :: .inl dp :: .inr (.inr (k', o', i')) :: .inl sp :: .inr (.inr (k, o, i)) :: st) M post := by
  intro p e s m args below meth c H locs la hK hI hP hS hl hlk hsk
  obtain ⟨q1, hq1⟩ := am_place (am_in hk' (am_hd (am_tl (am_tl hsk))))
  obtain ⟨q0, hq0⟩ := am_place (am_in hk (am_hd (am_tl (am_tl (am_tl (am_tl hsk))))))
  have he1 := am_wsK M hq1
  rw [am_e_int hs'] at he1
  have he0 := am_wsK M hq0
  rw [am_e_int hs] at he0
  have ht := hI.2.2.2.2.2.1
  refine va_copyi (D := am_D K) (cl := vwCl) (tys := am_tys K) (ws := am_ws K M) (ty := .int) hI.1 hI.2.1 (hI.2.2.2.1.trans hl.1.symm) hI.2.2.2.2.1 (ht _ hc.1) (ht _ hc.2.1) (ht _ hc.2.2.1) (ht _ hc.2.2.2) hI.2.2.2.2.2.2.2.1 hP (am_wsD hK M) hS q0 q1 0 0 he0 he1 rfl rfl rfl h1 h2 h3 h4 h5 (fun _ _ => rfl) (Nat.succ_le_succ (Nat.zero_le d)) ?_ hd (fun H1 locs1 hP1 _ hS1 => ?_)
  · rw [am_catS]
    have := am_nfw
    show _ ≤ 60 * (d + 1)
    omega
  · rw [am_wsS (M' := am_ri M k' o' i' (va_cpy (fun j => M.1 k o i j) (fun j => M.1 k' o' i' j) sp.toNatClampNeg dp.toNatClampNeg n.toNatClampNeg)) hK hq1 (by rw [am_e_int hs']; simp [am_ri]) (fun r hr => am_ri_e hr)] at hP1
    exact kk p e s m args below meth c H1 locs1 la hK hI hP1 hS1 hl hlk (am_tl (am_tl (am_tl (am_tl (am_tl hsk)))))
theorem am_copyL {idx k o i k' o' i' n0 n1 : Nat} {sp dp n : Int32} (hd : decode mi.2.2.1 pc = .ok (.invokestatic idx, 3)) (hc : am_CC mi.1 idx) (hs : am_sh k = .inr (.inl (2, n0))) (hs' : am_sh k' = .inr (.inl (2, n1))) (hk : k < 9000) (hk' : k' < 9000) (h1 : ¬ sp < 0) (h2 : ¬ dp < 0) (h3 : ¬ n < 0) (h4 : sp.toNatClampNeg + n.toNatClampNeg ≤ n0) (h5 : dp.toNatClampNeg + n.toNatClampNeg ≤ n1) (hw : (st.map am_cat).sum ≤ 8)
    (kk : am_W K (d + 1) mi (pc + 3) ls st (am_rl M k' o' i' (va_cpy (fun j => M.2 k o i j) (fun j => M.2 k' o' i' j) sp.toNatClampNeg dp.toNatClampNeg n.toNatClampNeg)) post) : am_W K (d + 1) mi pc ls (.inl n :: .inl dp :: .inr (.inr (k', o', i')) :: .inl sp :: .inr (.inr (k, o, i)) :: st) M post := by
  intro p e s m args below meth c H locs la hK hI hP hS hl hlk hsk
  obtain ⟨q1, hq1⟩ := am_place (am_in hk' (am_hd (am_tl (am_tl hsk))))
  obtain ⟨q0, hq0⟩ := am_place (am_in hk (am_hd (am_tl (am_tl (am_tl (am_tl hsk))))))
  have he1 := am_wsK M hq1
  rw [am_e_long hs'] at he1
  have he0 := am_wsK M hq0
  rw [am_e_long hs] at he0
  have ht := hI.2.2.2.2.2.1
  refine va_copyl (D := am_D K) (cl := vwCl) (tys := am_tys K) (ws := am_ws K M) (ty := .long) hI.1 hI.2.1 (hI.2.2.2.1.trans hl.1.symm) hI.2.2.2.2.1 (ht _ hc.1) (ht _ hc.2.1) (ht _ hc.2.2.1) (ht _ hc.2.2.2) hI.2.2.2.2.2.2.2.1 hP (am_wsD hK M) hS q0 q1 2 2 he0 he1 rfl rfl rfl h1 h2 h3 h4 h5 (fun _ _ => rfl) (Nat.succ_le_succ (Nat.zero_le d)) ?_ hd (fun H1 locs1 hP1 _ hS1 => ?_)
  · rw [am_catS]
    have := am_nfw
    show _ ≤ 60 * (d + 1)
    omega
  · rw [am_wsS (M' := am_rl M k' o' i' (va_cpy (fun j => M.2 k o i j) (fun j => M.2 k' o' i' j) sp.toNatClampNeg dp.toNatClampNeg n.toNatClampNeg)) hK hq1 (by rw [am_e_long hs']; simp [am_rl]) (fun r hr => am_rl_e hr)] at hP1
    exact kk p e s m args below meth c H1 locs1 la hK hI hP1 hS1 hl hlk (am_tl (am_tl (am_tl (am_tl (am_tl hsk)))))
theorem am_mmax {idx : Nat} {x y : Int32} (hd : decode mi.2.2.1 pc = .ok (.invokestatic idx, 3)) (hc : am_CM mi.1 idx Lib.Math.max.name Lib.Math.max.code 2) (hw : (st.map am_cat).sum ≤ 8) (kk : am_W K (d + 1) mi (pc + 3) ls (.inl (if x < y then y else x) :: st) M post) : am_W K (d + 1) mi pc ls (.inl y :: .inl x :: st) M post := by
  intro p e s m args below meth c H locs la hK hI hP hS hl hlk hsk
  have ht := hI.2.2.2.2.2.1
  refine va_mmax hI.1 hI.2.1 (hI.2.2.2.1.trans hl.1.symm) hI.2.2.2.2.1 (ht _ hc.1) (ht _ hc.2.1) (ht _ hc.2.2.1) (ht _ hc.2.2.2) (Nat.succ_le_succ (Nat.zero_le d)) ?_ (Nat.le_refl _) (Nat.le_refl _) hd (kk p e s m args below meth c H locs la hK hI hP hS hl hlk (am_cs trivial (am_tl (am_tl hsk))))
  rw [am_catS]
  show _ ≤ 60 * (d + 1)
  omega
theorem am_mmin {idx : Nat} {x y : Int32} (hd : decode mi.2.2.1 pc = .ok (.invokestatic idx, 3)) (hc : am_CM mi.1 idx Lib.Math.min.name Lib.Math.min.code 2) (hw : (st.map am_cat).sum ≤ 8) (kk : am_W K (d + 1) mi (pc + 3) ls (.inl (if y < x then y else x) :: st) M post) : am_W K (d + 1) mi pc ls (.inl y :: .inl x :: st) M post := by
  intro p e s m args below meth c H locs la hK hI hP hS hl hlk hsk
  have ht := hI.2.2.2.2.2.1
  refine va_mmin hI.1 hI.2.1 (hI.2.2.2.1.trans hl.1.symm) hI.2.2.2.2.1 (ht _ hc.1) (ht _ hc.2.1) (ht _ hc.2.2.1) (ht _ hc.2.2.2) (Nat.succ_le_succ (Nat.zero_le d)) ?_ (Nat.le_refl _) (Nat.le_refl _) hd (kk p e s m args below meth c H locs la hK hI hP hS hl hlk (am_cs trivial (am_tl (am_tl hsk))))
  rw [am_catS]
  show _ ≤ 60 * (d + 1)
  omega
theorem am_mabs {idx : Nat} {x : Int32} (hd : decode mi.2.2.1 pc = .ok (.invokestatic idx, 3)) (hc : am_CM mi.1 idx Lib.Math.abs.name Lib.Math.abs.code 1) (hw : (st.map am_cat).sum ≤ 8) (kk : am_W K (d + 1) mi (pc + 3) ls (.inl (if 0 ≤ x then x else 0 - x) :: st) M post) : am_W K (d + 1) mi pc ls (.inl x :: st) M post := by
  intro p e s m args below meth c H locs la hK hI hP hS hl hlk hsk
  have ht := hI.2.2.2.2.2.1
  refine va_mabs hI.1 hI.2.1 (hI.2.2.2.1.trans hl.1.symm) hI.2.2.2.2.1 (ht _ hc.1) (ht _ hc.2.1) (ht _ hc.2.2.1) (ht _ hc.2.2.2) (Nat.succ_le_succ (Nat.zero_le d)) ?_ (Nat.le_refl _) (Nat.le_refl _) hd (kk p e s m args below meth c H locs la hK hI hP hS hl hlk (am_cs trivial (am_tl hsk)))
  rw [am_catS]
  show _ ≤ 60 * (d + 1)
  omega
/-- a static that is a table -/
theorem am_gets {C n ds : String} {q : Nat} {idx : Nat} (hq : 9000 ≤ q) (hd : decode mi.2.2.1 pc = .ok (.getstatic idx, 3)) (hlink : Cond.fieldLink mi.1 idx C n ds ∈ am_T) (hZ : ∀ U, am_X K U → va_Z C n ds (.ref (am_ad K (q, 0, 0))) (am_A K) U U.heap) (kk : am_W K d mi (pc + 3) ls (.inr (.inr (q, 0, 0)) :: st) M post) : am_W K d mi pc ls st M post := by
  intro p e s m args below meth c H locs la hK hI hP hS hl hlk hsk
  exact va_gets hI.1 hI.2.1 (hZ s hI.2.2.2.2.2.2.2.2) hS hI.2.2.2.2.1 (hI.2.2.2.2.2.1 _ hlink) (fun _ h => h) hd (kk p e s m args below meth c H locs la hK hI hP hS hl hlk (am_cs (Or.inr hq) hsk))
theorem am_getsI {C n ds : String} {v : Int32} {idx : Nat} (hd : decode mi.2.2.1 pc = .ok (.getstatic idx, 3)) (hlink : Cond.fieldLink mi.1 idx C n ds ∈ am_T) (hZ : ∀ U, am_X K U → va_Z C n ds (.int v) (am_A K) U U.heap) (kk : am_W K d mi (pc + 3) ls (.inl v :: st) M post) : am_W K d mi pc ls st M post := by
  intro p e s m args below meth c H locs la hK hI hP hS hl hlk hsk
  exact va_gets hI.1 hI.2.1 (hZ s hI.2.2.2.2.2.2.2.2) hS hI.2.2.2.2.1 (hI.2.2.2.2.2.1 _ hlink) (fun _ h => h) hd (kk p e s m args below meth c H locs la hK hI hP hS hl hlk (am_cs trivial hsk))
theorem am_tabI {q o i N : Nat} {f : Nat → Int32} {x : Int32} (hd : decode mi.2.2.1 pc = .ok (.iaload, 1)) (hT : ∀ U, am_X K U → va_T .int (am_ad K (q, o, i)) N (fun j => .int (f j)) (am_A K) U U.heap) (hin : vp_in x N) (kk : am_W K d mi (pc + 1) ls (.inl (f x.toNatClampNeg) :: st) M post) : am_W K d mi pc ls (.inl x :: .inr (.inr (q, o, i)) :: st) M post := by
  intro p e s m args below meth c H locs la hK hI hP hS hl hlk hsk
  exact va_ti hI.1 hI.2.1 (hT s hI.2.2.2.2.2.2.2.2) hS hin rfl hd (kk p e s m args below meth c H locs la hK hI hP hS hl hlk (am_cs trivial (am_tl (am_tl hsk))))
theorem am_tabB {q o i N : Nat} {f : Nat → Int32} {x : Int32} (hd : decode mi.2.2.1 pc = .ok (.baload, 1)) (hT : ∀ U, am_X K U → va_T .byte (am_ad K (q, o, i)) N (fun j => .int (f j)) (am_A K) U U.heap) (hin : vp_in x N) (kk : am_W K d mi (pc + 1) ls (.inl (f x.toNatClampNeg) :: st) M post) : am_W K d mi pc ls (.inl x :: .inr (.inr (q, o, i)) :: st) M post := by
  intro p e s m args below meth c H locs la hK hI hP hS hl hlk hsk
  exact va_tb hI.1 hI.2.1 (hT s hI.2.2.2.2.2.2.2.2) hS hin rfl hd (kk p e s m args below meth c H locs la hK hI hP hS hl hlk (am_cs trivial (am_tl (am_tl hsk))))
theorem am_tabN {q o i N : Nat} {ty : FieldType} {f : Nat → Value} {v : Int32} (hd : decode mi.2.2.1 pc = .ok (.arraylength, 1)) (hT : ∀ U, am_X K U → va_T ty (am_ad K (q, o, i)) N f (am_A K) U U.heap) (hv : Int32.ofNat N = v) (kk : am_W K d mi (pc + 1) ls (.inl v :: st) M post) : am_W K d mi pc ls (.inr (.inr (q, o, i)) :: st) M post := by
  intro p e s m args below meth c H locs la hK hI hP hS hl hlk hsk
  exact va_tlen hI.1 hI.2.1 (hT s hI.2.2.2.2.2.2.2.2) hS hv hd (kk p e s m args below meth c H locs la hK hI hP hS hl hlk (am_cs trivial (am_tl hsk)))
theorem am_ldcS {idx k : Nat} {tx : String} (hd : decode mi.2.2.1 pc = .ok (.ldc idx, 2)) (hR : ∀ U, am_X K U → vk_R mi.1 idx tx (am_ad K (9100, k, 0)) U) (kk : am_W K d mi (pc + 2) ls (.inr (.inr (9100, k, 0)) :: st) M post) : am_W K d mi pc ls st M post := by
  intro p e s m args below meth c H locs la hK hI hP hS hl hlk hsk
  exact va_ldcS hI.1 hI.2.1 hI.2.2.2.2.1 (hR s hI.2.2.2.2.2.2.2.2) hd (kk p e s m args below meth c H locs la hK hI hP hS hl hlk (am_cs (Or.inr (show 9000 ≤ 9100 by decide)) hsk))
theorem am_X_S {K : am_K} {U : State} (h : am_X K U) : vk_S 4 am_sln am_sby (fun i => am_ad K (9100, i, 0)) (fun i => am_ad K (9101, i, 0)) (am_A K) U U.heap := h.2.2.2.2.2.2.2.2.1
/-- a text's bytes, its coder -/
theorem am_getSV {idx k : Nat} (hk : k < 4) (hd : decode mi.2.2.1 pc = .ok (.getfield idx, 3)) (hlink : Cond.fieldLink mi.1 idx "java/lang/String" "value" "[B" ∈ am_T) (kk : am_W K d mi (pc + 3) ls (.inr (.inr (9101, k, 0)) :: st) M post) : am_W K d mi pc ls (.inr (.inr (9100, k, 0)) :: st) M post := by
  intro p e s m args below meth c H locs la hK hI hP hS hl hlk hsk
  exact vk_getf hI.1 hI.2.1 ((am_X_S hI.2.2.2.2.2.2.2.2).1 k hk).2.2.1 hS hI.2.2.2.2.1 (hI.2.2.2.2.2.1 _ hlink) (fun _ h => h) hd (kk p e s m args below meth c H locs la hK hI hP hS hl hlk (am_cs (Or.inr (show 9000 ≤ 9101 by decide)) (am_tl hsk)))
theorem am_getSC {idx k : Nat} (hk : k < 4) (hd : decode mi.2.2.1 pc = .ok (.getfield idx, 3)) (hlink : Cond.fieldLink mi.1 idx "java/lang/String" "coder" "B" ∈ am_T) (kk : am_W K d mi (pc + 3) ls (.inl 0 :: st) M post) : am_W K d mi pc ls (.inr (.inr (9100, k, 0)) :: st) M post := by
  intro p e s m args below meth c H locs la hK hI hP hS hl hlk hsk
  exact vk_getf hI.1 hI.2.1 ((am_X_S hI.2.2.2.2.2.2.2.2).1 k hk).2.1 hS hI.2.2.2.2.1 (hI.2.2.2.2.2.1 _ hlink) (fun _ h => h) hd (kk p e s m args below meth c H locs la hK hI hP hS hl hlk (am_cs trivial (am_tl hsk)))
/-- a call of a text's own method -/
theorem am_callT {idx n k : Nat} {as sk : List am_V} {mi' : am_Mi} {post' : Option am_V → am_M → Prop} (hd : decode mi.2.2.1 pc = .ok (.invokevirtual idx, 3)) (hc : am_CV mi.1 idx mi') (hB : am_CB mi' n) (hk : k < 4) (hci : mi'.1 = "java/lang/String") (hn : as.length = n) (hst : sk = as.reverse ++ .inr (.inr (9100, k, 0)) :: st) (hw : (st.map am_cat).sum ≤ 8)
    (hM : am_Met K d mi' (.inr (.inr (9100, k, 0)) :: as) M post') (kk : ∀ r M', post' r M' → am_W K (d + 1) mi (pc + 3) ls (r.toList ++ st) M' post) : am_W K (d + 1) mi pc ls sk M post := by
  intro p e s m args below meth c H locs la hK hI hP hS hl hlk hsk
  subst hst
  have hskA : ∀ v ∈ as, am_vk K v := fun v hv => hsk v (List.mem_append_left _ (List.mem_reverse.mpr hv))
  have hskR : am_vk K (.inr (.inr (9100, k, 0))) := hsk _ (List.mem_append_right _ List.mem_cons_self)
  have hskS : ∀ v ∈ st, am_vk K v := fun v hv => hsk v (List.mem_append_right _ (List.mem_cons_of_mem _ hv))
  have hrecv := vk_recv (am_X_S hI.2.2.2.2.2.2.2.2) hk hS
  rw [← hci] at hrecv
  have ht := hI.2.2.2.2.2.1
  have hcb : CallB (am_R (d + 1)) s args mi.1 idx mi'.2.1 mi'.2.2.1 mi'.2.2.2.1 mi'.2.2.2.2 (am_tw mi') (am_R d) 0 0 n :=
    callB_of n ht (am_twG hB) rfl rfl rfl (by rw [hB.2.2.1]; exact ht _ hB.1) (ht _ hc.1) hB.2.2.2.1 (am_rm hB.2.2.2.2.2)
  have hrun := va_runV (b := am_ad K (9100, k, 0)) (C := mi'.1) (As := as.map (am_v K)) (rest := st.map (am_v K)) (g := F0 m pc la ((as.reverse ++ .inr (.inr (9100, k, 0)) :: st).map (am_v K))) (cells := 0) (slots := 0) (locs := locs) (e := e) (below := below) (meth := meth)
    ⟨hI.1, hI.2.1, hI.2.2.2.1, hI.2.2.2.2.1, ht⟩ hM ⟨hcb, ht _ hc.2.1, ht _ hc.2.2⟩ ⟨am_blind, hrecv, am_pre (as := .inr (.inr (9100, k, 0)) :: as) hK hI hP hS (am_cs hskR hskA)⟩ rfl (by rw [List.length_map]; exact hn) hl.1 (by rw [List.map_append, List.map_reverse]; rfl) (lv_room (by rw [am_catS]; exact hw)) hd ⟨Nat.le_refl _, Nat.le_refl _⟩
  exact am_after hrun hK hI hS hl hlk hskS kk
end AMX
