abbrev gv_F : Type := Program × Env × Room × State × MethodId × Array Value × List Frame × Method × Code × (State → Prop) × (Nat → Prop)
/-- a frame of any room, any end, any world that holds the small machine's -/
def gv (F : gv_F) (mi : am_Mi) (K : am_K) (cells slots pc : Nat) (ls : List (Nat × am_V)) (st : List am_V) (M : am_M) : Prop :=
  ∀ (H : Heap) (locs : List Loc) (la : Array Slot), am_ok K → am_I K mi F.1 F.2.2.2.1 F.2.2.2.2.1 F.2.2.2.2.2.1 F.2.2.2.2.2.2.2.1 F.2.2.2.2.2.2.2.2.1 → va_P (am_D K) vwCl (am_ws K M) H → va_S F.2.2.2.2.2.2.2.2.2.2 F.2.2.2.1.heap H locs → (∀ a, am_A K a → F.2.2.2.2.2.2.2.2.2.2 a) → lv_has la mi.2.2.2.1 (am_ls K ls) → (∀ q ∈ ls, am_vk K q.2) → (∀ v ∈ st, am_vk K v) →
    W F.1 (am_l K) F.2.1 F.2.2.1 F.2.2.2.1 F.2.2.2.2.1 F.2.2.2.2.2.1 F.2.2.2.2.2.2.1 F.2.2.2.2.2.2.2.1 F.2.2.2.2.2.2.2.2.1 H locs cells slots F.2.2.2.2.2.2.2.2.2.1 (F0 F.2.2.2.2.1 pc la (st.map (am_v K)))
theorem am_wsD0 {K : am_K} {A0 : Nat → Prop} (hK : am_ok K) (M : am_M) (hA : ∀ a, am_A K a → A0 a) : va_D A0 (am_ws K M) := (am_wsD hK M).weaken (fun _ _ _ h => hA _ h)
section GVR
variable {F : gv_F} {K : am_K} {mi : am_Mi} {cells slots pc : Nat} {ls : List (Nat × am_V)} {st : List am_V} {M : am_M}
theorem gv_less {ls' : List (Nat × am_V)} (h : ∀ q ∈ ls', q ∈ ls) (k : gv F mi K cells slots pc ls' st M) : gv F mi K cells slots pc ls st M := by
  intro H locs la hK hI hP hS hA hl hlk hsk
  refine k H locs la hK hI hP hS hA (hl.less fun q hq => ?_) (fun q hq => hlk q (h q hq)) hsk
  obtain ⟨r, hr, rfl⟩ := List.mem_map.mp hq
  exact List.mem_map.mpr ⟨r, h r hr, rfl⟩
theorem gv_iadd {y x : Int32} (hd : decode mi.2.2.1 pc = .ok (.iadd, 1)) (k : gv F mi K cells slots (pc + 1) ls (.inl (x + y) :: st) M) : gv F mi K cells slots pc ls (.inl y :: .inl x :: st) M := by
  intro H locs la hK hI hP hS hA hl hlk hsk
  exact lv_iadd hI.1 hI.2.1 hd (k H locs la hK hI hP hS hA hl hlk (am_cs trivial (am_tl (am_tl hsk))))
theorem gv_isub {y x : Int32} (hd : decode mi.2.2.1 pc = .ok (.isub, 1)) (k : gv F mi K cells slots (pc + 1) ls (.inl (x - y) :: st) M) : gv F mi K cells slots pc ls (.inl y :: .inl x :: st) M := by
  intro H locs la hK hI hP hS hA hl hlk hsk
  exact lv_isub hI.1 hI.2.1 hd (k H locs la hK hI hP hS hA hl hlk (am_cs trivial (am_tl (am_tl hsk))))
theorem gv_imul {y x : Int32} (hd : decode mi.2.2.1 pc = .ok (.imul, 1)) (k : gv F mi K cells slots (pc + 1) ls (.inl (x * y) :: st) M) : gv F mi K cells slots pc ls (.inl y :: .inl x :: st) M := by
  intro H locs la hK hI hP hS hA hl hlk hsk
  exact lv_imul hI.1 hI.2.1 hd (k H locs la hK hI hP hS hA hl hlk (am_cs trivial (am_tl (am_tl hsk))))
theorem gv_iand {y x : Int32} (hd : decode mi.2.2.1 pc = .ok (.iand, 1)) (k : gv F mi K cells slots (pc + 1) ls (.inl (x &&& y) :: st) M) : gv F mi K cells slots pc ls (.inl y :: .inl x :: st) M := by
  intro H locs la hK hI hP hS hA hl hlk hsk
  exact lv_iand hI.1 hI.2.1 hd (k H locs la hK hI hP hS hA hl hlk (am_cs trivial (am_tl (am_tl hsk))))
theorem gv_ior {y x : Int32} (hd : decode mi.2.2.1 pc = .ok (.ior, 1)) (k : gv F mi K cells slots (pc + 1) ls (.inl (x ||| y) :: st) M) : gv F mi K cells slots pc ls (.inl y :: .inl x :: st) M := by
  intro H locs la hK hI hP hS hA hl hlk hsk
  exact lv_ior hI.1 hI.2.1 hd (k H locs la hK hI hP hS hA hl hlk (am_cs trivial (am_tl (am_tl hsk))))
theorem gv_ixor {y x : Int32} (hd : decode mi.2.2.1 pc = .ok (.ixor, 1)) (k : gv F mi K cells slots (pc + 1) ls (.inl (x ^^^ y) :: st) M) : gv F mi K cells slots pc ls (.inl y :: .inl x :: st) M := by
  intro H locs la hK hI hP hS hA hl hlk hsk
  exact lv_ixor hI.1 hI.2.1 hd (k H locs la hK hI hP hS hA hl hlk (am_cs trivial (am_tl (am_tl hsk))))
theorem gv_ishl {y x : Int32} (hd : decode mi.2.2.1 pc = .ok (.ishl, 1)) (k : gv F mi K cells slots (pc + 1) ls (.inl (x <<< (y &&& 31)) :: st) M) : gv F mi K cells slots pc ls (.inl y :: .inl x :: st) M := by
  intro H locs la hK hI hP hS hA hl hlk hsk
  exact lv_ishl hI.1 hI.2.1 hd (k H locs la hK hI hP hS hA hl hlk (am_cs trivial (am_tl (am_tl hsk))))
theorem gv_ishr {y x : Int32} (hd : decode mi.2.2.1 pc = .ok (.ishr, 1)) (k : gv F mi K cells slots (pc + 1) ls (.inl (x >>> (y &&& 31)) :: st) M) : gv F mi K cells slots pc ls (.inl y :: .inl x :: st) M := by
  intro H locs la hK hI hP hS hA hl hlk hsk
  exact lv_ishr hI.1 hI.2.1 hd (k H locs la hK hI hP hS hA hl hlk (am_cs trivial (am_tl (am_tl hsk))))
theorem gv_idiv {y x : Int32} (hd : decode mi.2.2.1 pc = .ok (.idiv, 1)) (hne : ¬ y = 0) (k : gv F mi K cells slots (pc + 1) ls (.inl (x / y) :: st) M) : gv F mi K cells slots pc ls (.inl y :: .inl x :: st) M := by
  intro H locs la hK hI hP hS hA hl hlk hsk
  exact lv_idiv hI.1 hI.2.1 hd hne (k H locs la hK hI hP hS hA hl hlk (am_cs trivial (am_tl (am_tl hsk))))
theorem gv_irem {y x : Int32} (hd : decode mi.2.2.1 pc = .ok (.irem, 1)) (hne : ¬ y = 0) (k : gv F mi K cells slots (pc + 1) ls (.inl (x - x / y * y) :: st) M) : gv F mi K cells slots pc ls (.inl y :: .inl x :: st) M := by
  intro H locs la hK hI hP hS hA hl hlk hsk
  exact lv_irem hI.1 hI.2.1 hd hne (k H locs la hK hI hP hS hA hl hlk (am_cs trivial (am_tl (am_tl hsk))))
theorem gv_iushr {y x : Int32} (hd : decode mi.2.2.1 pc = .ok (.iushr, 1)) (k : gv F mi K cells slots (pc + 1) ls (.inl ((x.toUInt32 >>> (y.toUInt32 &&& Int32.toUInt32 31)).toInt32) :: st) M) : gv F mi K cells slots pc ls (.inl y :: .inl x :: st) M := by
  intro H locs la hK hI hP hS hA hl hlk hsk
  exact lv_iushr hI.1 hI.2.1 hd rfl (k H locs la hK hI hP hS hA hl hlk (am_cs trivial (am_tl (am_tl hsk))))
theorem gv_ineg {x : Int32} (hd : decode mi.2.2.1 pc = .ok (.ineg, 1)) (k : gv F mi K cells slots (pc + 1) ls (.inl (-x) :: st) M) : gv F mi K cells slots pc ls (.inl x :: st) M := by
  intro H locs la hK hI hP hS hA hl hlk hsk
  exact lv_ineg hI.1 hI.2.1 hd (k H locs la hK hI hP hS hA hl hlk (am_cs trivial (am_tl hsk)))
theorem gv_ladd {y x : Int64} (hd : decode mi.2.2.1 pc = .ok (.ladd, 1)) (k : gv F mi K cells slots (pc + 1) ls (.inr (.inl (x + y)) :: st) M) : gv F mi K cells slots pc ls (.inr (.inl y) :: .inr (.inl x) :: st) M := by
  intro H locs la hK hI hP hS hA hl hlk hsk
  exact lv_ladd hI.1 hI.2.1 hd (k H locs la hK hI hP hS hA hl hlk (am_cs trivial (am_tl (am_tl hsk))))
theorem gv_lsub {y x : Int64} (hd : decode mi.2.2.1 pc = .ok (.lsub, 1)) (k : gv F mi K cells slots (pc + 1) ls (.inr (.inl (x - y)) :: st) M) : gv F mi K cells slots pc ls (.inr (.inl y) :: .inr (.inl x) :: st) M := by
  intro H locs la hK hI hP hS hA hl hlk hsk
  exact lv_lsub hI.1 hI.2.1 hd (k H locs la hK hI hP hS hA hl hlk (am_cs trivial (am_tl (am_tl hsk))))
theorem gv_lmul {y x : Int64} (hd : decode mi.2.2.1 pc = .ok (.lmul, 1)) (k : gv F mi K cells slots (pc + 1) ls (.inr (.inl (x * y)) :: st) M) : gv F mi K cells slots pc ls (.inr (.inl y) :: .inr (.inl x) :: st) M := by
  intro H locs la hK hI hP hS hA hl hlk hsk
  exact lv_lmul hI.1 hI.2.1 hd (k H locs la hK hI hP hS hA hl hlk (am_cs trivial (am_tl (am_tl hsk))))
theorem gv_land {y x : Int64} (hd : decode mi.2.2.1 pc = .ok (.land, 1)) (k : gv F mi K cells slots (pc + 1) ls (.inr (.inl (x &&& y)) :: st) M) : gv F mi K cells slots pc ls (.inr (.inl y) :: .inr (.inl x) :: st) M := by
  intro H locs la hK hI hP hS hA hl hlk hsk
  exact lv_land hI.1 hI.2.1 hd (k H locs la hK hI hP hS hA hl hlk (am_cs trivial (am_tl (am_tl hsk))))
theorem gv_lor {y x : Int64} (hd : decode mi.2.2.1 pc = .ok (.lor, 1)) (k : gv F mi K cells slots (pc + 1) ls (.inr (.inl (x ||| y)) :: st) M) : gv F mi K cells slots pc ls (.inr (.inl y) :: .inr (.inl x) :: st) M := by
  intro H locs la hK hI hP hS hA hl hlk hsk
  exact lv_lor hI.1 hI.2.1 hd (k H locs la hK hI hP hS hA hl hlk (am_cs trivial (am_tl (am_tl hsk))))
theorem gv_ldiv {y x : Int64} (hd : decode mi.2.2.1 pc = .ok (.ldiv, 1)) (hne : ¬ y = 0) (k : gv F mi K cells slots (pc + 1) ls (.inr (.inl (x / y)) :: st) M) : gv F mi K cells slots pc ls (.inr (.inl y) :: .inr (.inl x) :: st) M := by
  intro H locs la hK hI hP hS hA hl hlk hsk
  exact lv_ldiv hI.1 hI.2.1 hd hne (k H locs la hK hI hP hS hA hl hlk (am_cs trivial (am_tl (am_tl hsk))))
theorem gv_lshl {y : Int32} {x : Int64} (hd : decode mi.2.2.1 pc = .ok (.lshl, 1)) (k : gv F mi K cells slots (pc + 1) ls (.inr (.inl (x <<< (y.toInt64 &&& 63))) :: st) M) : gv F mi K cells slots pc ls (.inl y :: .inr (.inl x) :: st) M := by
  intro H locs la hK hI hP hS hA hl hlk hsk
  exact lv_lshl hI.1 hI.2.1 hd rfl (k H locs la hK hI hP hS hA hl hlk (am_cs trivial (am_tl (am_tl hsk))))
theorem gv_i2l {x : Int32} (hd : decode mi.2.2.1 pc = .ok (.i2l, 1)) (k : gv F mi K cells slots (pc + 1) ls (.inr (.inl x.toInt64) :: st) M) : gv F mi K cells slots pc ls (.inl x :: st) M := by
  intro H locs la hK hI hP hS hA hl hlk hsk
  exact lv_i2l hI.1 hI.2.1 hd rfl (k H locs la hK hI hP hS hA hl hlk (am_cs trivial (am_tl hsk)))
theorem gv_l2i {x : Int64} (hd : decode mi.2.2.1 pc = .ok (.l2i, 1)) (k : gv F mi K cells slots (pc + 1) ls (.inl x.toInt32 :: st) M) : gv F mi K cells slots pc ls (.inr (.inl x) :: st) M := by
  intro H locs la hK hI hP hS hA hl hlk hsk
  exact lv_l2i hI.1 hI.2.1 hd rfl (k H locs la hK hI hP hS hA hl hlk (am_cs trivial (am_tl hsk)))
theorem gv_i2b {x : Int32} (hd : decode mi.2.2.1 pc = .ok (.i2b, 1)) (k : gv F mi K cells slots (pc + 1) ls (.inl x.toInt8.toInt32 :: st) M) : gv F mi K cells slots pc ls (.inl x :: st) M := by
  intro H locs la hK hI hP hS hA hl hlk hsk
  exact lv_i2b hI.1 hI.2.1 hd rfl (k H locs la hK hI hP hS hA hl hlk (am_cs trivial (am_tl hsk)))
theorem gv_i2s {x : Int32} (hd : decode mi.2.2.1 pc = .ok (.i2s, 1)) (k : gv F mi K cells slots (pc + 1) ls (.inl x.toInt16.toInt32 :: st) M) : gv F mi K cells slots pc ls (.inl x :: st) M := by
  intro H locs la hK hI hP hS hA hl hlk hsk
  exact lv_i2s hI.1 hI.2.1 hd rfl (k H locs la hK hI hP hS hA hl hlk (am_cs trivial (am_tl hsk)))
theorem gv_i2c {x : Int32} (hd : decode mi.2.2.1 pc = .ok (.i2c, 1)) (k : gv F mi K cells slots (pc + 1) ls (.inl (x.toUInt32 % 65536).toInt32 :: st) M) : gv F mi K cells slots pc ls (.inl x :: st) M := by
  intro H locs la hK hI hP hS hA hl hlk hsk
  exact lv_i2c hI.1 hI.2.1 hd rfl (k H locs la hK hI hP hS hA hl hlk (am_cs trivial (am_tl hsk)))
theorem gv_lcmp {y x : Int64} (hd : decode mi.2.2.1 pc = .ok (.lcmp, 1)) (k : gv F mi K cells slots (pc + 1) ls (.inl (lg_cmp x y) :: st) M) : gv F mi K cells slots pc ls (.inr (.inl y) :: .inr (.inl x) :: st) M := by
  intro H locs la hK hI hP hS hA hl hlk hsk
  exact W.lcmp hI.1 hI.2.1 hd (k H locs la hK hI hP hS hA hl hlk (am_cs trivial (am_tl (am_tl hsk))))
theorem gv_iconst {n : Int} {v : Int32} (hd : decode mi.2.2.1 pc = .ok (.iconst n, 1)) (hv : Int32.ofInt n = v) (k : gv F mi K cells slots (pc + 1) ls (.inl v :: st) M) : gv F mi K cells slots pc ls (st) M := by
  intro H locs la hK hI hP hS hA hl hlk hsk
  exact lv_iconst hI.1 hI.2.1 hd hv (k H locs la hK hI hP hS hA hl hlk (am_cs trivial hsk))
theorem gv_bipush {n : Int} {v : Int32} (hd : decode mi.2.2.1 pc = .ok (.bipush n, 2)) (hv : (Int8.ofInt n).toInt32 = v) (k : gv F mi K cells slots (pc + 2) ls (.inl v :: st) M) : gv F mi K cells slots pc ls (st) M := by
  intro H locs la hK hI hP hS hA hl hlk hsk
  exact lv_bipush hI.1 hI.2.1 hd hv (k H locs la hK hI hP hS hA hl hlk (am_cs trivial hsk))
theorem gv_sipush {n : Int} {v : Int32} (hd : decode mi.2.2.1 pc = .ok (.sipush n, 3)) (hv : (Int16.ofInt n).toInt32 = v) (k : gv F mi K cells slots (pc + 3) ls (.inl v :: st) M) : gv F mi K cells slots pc ls (st) M := by
  intro H locs la hK hI hP hS hA hl hlk hsk
  exact lv_sipush hI.1 hI.2.1 hd hv (k H locs la hK hI hP hS hA hl hlk (am_cs trivial hsk))
theorem gv_lconst {n : Fin 2} {v : Int64} (hd : decode mi.2.2.1 pc = .ok (.lconst n, 1)) (hv : Int64.ofNat (n : Nat) = v) (k : gv F mi K cells slots (pc + 1) ls (.inr (.inl v) :: st) M) : gv F mi K cells slots pc ls (st) M := by
  intro H locs la hK hI hP hS hA hl hlk hsk
  exact lv_lconst hI.1 hI.2.1 hd hv (k H locs la hK hI hP hS hA hl hlk (am_cs trivial hsk))
theorem gv_ldc {idx : Nat} {v : Int32} (hd : decode mi.2.2.1 pc = .ok (.ldc idx, 2)) (hc : Cond.constant mi.1 idx v ∈ am_T) (k : gv F mi K cells slots (pc + 2) ls (.inl v :: st) M) : gv F mi K cells slots pc ls st M := by
  intro H locs la hK hI hP hS hA hl hlk hsk
  exact lv_ldc hI.1 hI.2.1 hI.2.2.2.2.1 (hI.2.2.2.2.2.1 _ hc) hd (k H locs la hK hI hP hS hA hl hlk (am_cs trivial hsk))
theorem gv_ldcw {idx : Nat} {v : Int32} (hd : decode mi.2.2.1 pc = .ok (.ldc_w idx, 3)) (hc : Cond.constant mi.1 idx v ∈ am_T) (k : gv F mi K cells slots (pc + 3) ls (.inl v :: st) M) : gv F mi K cells slots pc ls st M := by
  intro H locs la hK hI hP hS hA hl hlk hsk
  exact lv_ldcw hI.1 hI.2.1 hI.2.2.2.2.1 (hI.2.2.2.2.2.1 _ hc) hd (k H locs la hK hI hP hS hA hl hlk (am_cs trivial hsk))
theorem gv_ldc2 {idx : Nat} {v : Int64} (hd : decode mi.2.2.1 pc = .ok (.ldc2_w idx, 3)) (hc : Cond.constantLong mi.1 idx v ∈ am_T) (k : gv F mi K cells slots (pc + 3) ls (.inr (.inl v) :: st) M) : gv F mi K cells slots pc ls st M := by
  intro H locs la hK hI hP hS hA hl hlk hsk
  exact lv_ldc2 hI.1 hI.2.1 hI.2.2.2.2.1 (hI.2.2.2.2.2.1 _ hc) hd (k H locs la hK hI hP hS hA hl hlk (am_cs trivial hsk))
theorem gv_iload_n {i : Fin 4} {x : Int32} (hd : decode mi.2.2.1 pc = .ok (.iload_n i, 1)) (hg : am_get i ls = some (.inl x)) (k : gv F mi K cells slots (pc + 1) ls (.inl x :: st) M) : gv F mi K cells slots pc ls st M := by
  intro H locs la hK hI hP hS hA hl hlk hsk
  exact lv_iload_n hI.1 hI.2.1 hd rfl (am_la hl hg) (k H locs la hK hI hP hS hA hl hlk (am_cs trivial hsk))
theorem gv_iload {i : Nat} {x : Int32} (hd : decode mi.2.2.1 pc = .ok (.iload i, 2)) (hg : am_get i ls = some (.inl x)) (k : gv F mi K cells slots (pc + 2) ls (.inl x :: st) M) : gv F mi K cells slots pc ls st M := by
  intro H locs la hK hI hP hS hA hl hlk hsk
  exact lv_iload hI.1 hI.2.1 hd (am_la hl hg) (k H locs la hK hI hP hS hA hl hlk (am_cs trivial hsk))
theorem gv_lload_n {i : Fin 4} {x : Int64} (hd : decode mi.2.2.1 pc = .ok (.lload_n i, 1)) (hg : am_get i ls = some (.inr (.inl x))) (k : gv F mi K cells slots (pc + 1) ls (.inr (.inl x) :: st) M) : gv F mi K cells slots pc ls st M := by
  intro H locs la hK hI hP hS hA hl hlk hsk
  exact lv_lload_n hI.1 hI.2.1 hd rfl (am_la hl hg) (k H locs la hK hI hP hS hA hl hlk (am_cs trivial hsk))
theorem gv_lload {i : Nat} {x : Int64} (hd : decode mi.2.2.1 pc = .ok (.lload i, 2)) (hg : am_get i ls = some (.inr (.inl x))) (k : gv F mi K cells slots (pc + 2) ls (.inr (.inl x) :: st) M) : gv F mi K cells slots pc ls st M := by
  intro H locs la hK hI hP hS hA hl hlk hsk
  exact lv_lload hI.1 hI.2.1 hd (am_la hl hg) (k H locs la hK hI hP hS hA hl hlk (am_cs trivial hsk))
theorem gv_aload_n {i : Fin 4} {x : am_L} (hd : decode mi.2.2.1 pc = .ok (.aload_n i, 1)) (hg : am_get i ls = some (.inr (.inr x))) (k : gv F mi K cells slots (pc + 1) ls (.inr (.inr x) :: st) M) : gv F mi K cells slots pc ls st M := by
  intro H locs la hK hI hP hS hA hl hlk hsk
  exact lv_aload_n hI.1 hI.2.1 hd rfl (am_la hl hg) (k H locs la hK hI hP hS hA hl hlk (am_cs (hlk _ (am_get_in hg)) hsk))
theorem gv_aload {i : Nat} {x : am_L} (hd : decode mi.2.2.1 pc = .ok (.aload i, 2)) (hg : am_get i ls = some (.inr (.inr x))) (k : gv F mi K cells slots (pc + 2) ls (.inr (.inr x) :: st) M) : gv F mi K cells slots pc ls st M := by
  intro H locs la hK hI hP hS hA hl hlk hsk
  exact lv_aload hI.1 hI.2.1 hd (am_la hl hg) (k H locs la hK hI hP hS hA hl hlk (am_cs (hlk _ (am_get_in hg)) hsk))
theorem gv_istore_n {i : Fin 4} {x : Int32} {ls' : List (Nat × am_V)} (hd : decode mi.2.2.1 pc = .ok (.istore_n i, 1)) (hn : (i : Nat) < mi.2.2.2.1) (hp : am_put (i : Nat) (.inl x) ls = ls') (k : gv F mi K cells slots (pc + 1) ls' st M) : gv F mi K cells slots pc ls (.inl x :: st) M := by
  intro H locs la hK hI hP hS hA hl hlk hsk
  refine lv_istore_n hI.1 hI.2.1 hd rfl hl hn rfl (fun la' hla => ?_)
  subst hp
  exact k H locs la' hK hI hP hS hA (hla.less fun q hq => am_put_1 hq) (am_put_k (am_hd hsk) hlk) (am_tl hsk)
theorem gv_istore {i : Nat} {x : Int32} {ls' : List (Nat × am_V)} (hd : decode mi.2.2.1 pc = .ok (.istore i, 2)) (hn : i < mi.2.2.2.1) (hp : am_put i (.inl x) ls = ls') (k : gv F mi K cells slots (pc + 2) ls' st M) : gv F mi K cells slots pc ls (.inl x :: st) M := by
  intro H locs la hK hI hP hS hA hl hlk hsk
  refine lv_istore hI.1 hI.2.1 hd hl hn rfl (fun la' hla => ?_)
  subst hp
  exact k H locs la' hK hI hP hS hA (hla.less fun q hq => am_put_1 hq) (am_put_k (am_hd hsk) hlk) (am_tl hsk)
theorem gv_lstore_n {i : Fin 4} {x : Int64} {ls' : List (Nat × am_V)} (hd : decode mi.2.2.1 pc = .ok (.lstore_n i, 1)) (hn : (i : Nat) + 1 < mi.2.2.2.1) (hp : am_put (i : Nat) (.inr (.inl x)) ls = ls') (k : gv F mi K cells slots (pc + 1) ls' st M) : gv F mi K cells slots pc ls (.inr (.inl x) :: st) M := by
  intro H locs la hK hI hP hS hA hl hlk hsk
  refine lv_lstore_n hI.1 hI.2.1 hd rfl hl hn rfl (fun la' hla => ?_)
  subst hp
  exact k H locs la' hK hI hP hS hA (hla.less fun q hq => am_put_2 rfl hq) (am_put_k (am_hd hsk) hlk) (am_tl hsk)
theorem gv_lstore {i : Nat} {x : Int64} {ls' : List (Nat × am_V)} (hd : decode mi.2.2.1 pc = .ok (.lstore i, 2)) (hn : i + 1 < mi.2.2.2.1) (hp : am_put i (.inr (.inl x)) ls = ls') (k : gv F mi K cells slots (pc + 2) ls' st M) : gv F mi K cells slots pc ls (.inr (.inl x) :: st) M := by
  intro H locs la hK hI hP hS hA hl hlk hsk
  refine lv_lstore hI.1 hI.2.1 hd hl hn rfl (fun la' hla => ?_)
  subst hp
  exact k H locs la' hK hI hP hS hA (hla.less fun q hq => am_put_2 rfl hq) (am_put_k (am_hd hsk) hlk) (am_tl hsk)
theorem gv_astore_n {i : Fin 4} {x : am_L} {ls' : List (Nat × am_V)} (hd : decode mi.2.2.1 pc = .ok (.astore_n i, 1)) (hn : (i : Nat) < mi.2.2.2.1) (hp : am_put (i : Nat) (.inr (.inr x)) ls = ls') (k : gv F mi K cells slots (pc + 1) ls' st M) : gv F mi K cells slots pc ls (.inr (.inr x) :: st) M := by
  intro H locs la hK hI hP hS hA hl hlk hsk
  refine lv_astore_n hI.1 hI.2.1 hd rfl hl hn rfl (fun la' hla => ?_)
  subst hp
  exact k H locs la' hK hI hP hS hA (hla.less fun q hq => am_put_1 hq) (am_put_k (am_hd hsk) hlk) (am_tl hsk)
theorem gv_astore {i : Nat} {x : am_L} {ls' : List (Nat × am_V)} (hd : decode mi.2.2.1 pc = .ok (.astore i, 2)) (hn : i < mi.2.2.2.1) (hp : am_put i (.inr (.inr x)) ls = ls') (k : gv F mi K cells slots (pc + 2) ls' st M) : gv F mi K cells slots pc ls (.inr (.inr x) :: st) M := by
  intro H locs la hK hI hP hS hA hl hlk hsk
  refine lv_astore hI.1 hI.2.1 hd hl hn rfl (fun la' hla => ?_)
  subst hp
  exact k H locs la' hK hI hP hS hA (hla.less fun q hq => am_put_1 hq) (am_put_k (am_hd hsk) hlk) (am_tl hsk)
theorem gv_iinc {i : Nat} {n : Int} {x v : Int32} {ls' : List (Nat × am_V)} (hd : decode mi.2.2.1 pc = .ok (.iinc i n, 3)) (hg : am_get i ls = some (.inl x)) (hv : x + Int32.ofInt n = v) (hn : i < mi.2.2.2.1) (hp : am_put i (.inl v) ls = ls') (k : gv F mi K cells slots (pc + 3) ls' st M) : gv F mi K cells slots pc ls st M := by
  intro H locs la hK hI hP hS hA hl hlk hsk
  obtain ⟨q, hq⟩ := List.getElem?_of_mem (List.mem_map.mpr ⟨(i, .inl x), am_get_in hg, rfl⟩ : (i, am_v K (.inl x)) ∈ am_ls K ls)
  refine lv_iinc hI.1 hI.2.1 hd hl hq hv hn rfl (fun la' hla => ?_)
  subst hp
  exact k H locs la' hK hI hP hS hA (hla.less fun q hq => am_put_1 hq) (am_put_k (v := .inl v) trivial hlk) hsk
theorem gv_dup {v : am_V} (hd : decode mi.2.2.1 pc = .ok (.dup, 1)) (hc : am_cat v = 1) (k : gv F mi K cells slots (pc + 1) ls (v :: v :: st) M) : gv F mi K cells slots pc ls (v :: st) M := by
  intro H locs la hK hI hP hS hA hl hlk hsk
  exact lv_dup hI.1 hI.2.1 hd ((am_cat_v K v).trans hc) (k H locs la hK hI hP hS hA hl hlk (am_cs (am_hd hsk) hsk))
theorem gv_pop {v : am_V} (hd : decode mi.2.2.1 pc = .ok (.pop, 1)) (hc : am_cat v = 1) (k : gv F mi K cells slots (pc + 1) ls st M) : gv F mi K cells slots pc ls (v :: st) M := by
  intro H locs la hK hI hP hS hA hl hlk hsk
  exact lv_pop hI.1 hI.2.1 hd ((am_cat_v K v).trans hc) (k H locs la hK hI hP hS hA hl hlk (am_tl hsk))
theorem gv_dup_x1 {v w : am_V} (hd : decode mi.2.2.1 pc = .ok (.dup_x1, 1)) (hc : am_cat v = 1) (hc2 : am_cat w = 1) (k : gv F mi K cells slots (pc + 1) ls (v :: w :: v :: st) M) : gv F mi K cells slots pc ls (v :: w :: st) M := by
  intro H locs la hK hI hP hS hA hl hlk hsk
  exact lv_dup_x1 hI.1 hI.2.1 hd ((am_cat_v K v).trans hc) ((am_cat_v K w).trans hc2) (k H locs la hK hI hP hS hA hl hlk (am_cs (am_hd hsk) (am_cs (am_hd (am_tl hsk)) (am_cs (am_hd hsk) (am_tl (am_tl hsk))))))
theorem gv_dup2 {v w : am_V} (hd : decode mi.2.2.1 pc = .ok (.dup2, 1)) (hc : am_cat v = 1) (hc2 : am_cat w = 1) (k : gv F mi K cells slots (pc + 1) ls (v :: w :: v :: w :: st) M) : gv F mi K cells slots pc ls (v :: w :: st) M := by
  intro H locs la hK hI hP hS hA hl hlk hsk
  exact lv_dup2_11 hI.1 hI.2.1 hd ((am_cat_v K v).trans hc) ((am_cat_v K w).trans hc2) (k H locs la hK hI hP hS hA hl hlk (am_cs (am_hd hsk) (am_cs (am_hd (am_tl hsk)) hsk)))
theorem gv_if_eq {x : Int32} {off : Int} (tgt : Nat) (hd : decode mi.2.2.1 pc = .ok (.ifCond .eq off, 3)) (ht : (pc : Int) + off = (tgt : Int)) (kt : x = 0 → gv F mi K cells slots tgt ls st M) (kf : ¬ x = 0 → gv F mi K cells slots (pc + 3) ls st M) : gv F mi K cells slots pc ls (.inl x :: st) M := by
  intro H locs la hK hI hP hS hA hl hlk hsk
  exact lv_if_eq hI.1 hI.2.1 hd ht (fun h => kt h H locs la hK hI hP hS hA hl hlk (am_tl hsk)) (fun h => kf h H locs la hK hI hP hS hA hl hlk (am_tl hsk))
theorem gv_if_ne {x : Int32} {off : Int} (tgt : Nat) (hd : decode mi.2.2.1 pc = .ok (.ifCond .ne off, 3)) (ht : (pc : Int) + off = (tgt : Int)) (kt : ¬ x = 0 → gv F mi K cells slots tgt ls st M) (kf : x = 0 → gv F mi K cells slots (pc + 3) ls st M) : gv F mi K cells slots pc ls (.inl x :: st) M := by
  intro H locs la hK hI hP hS hA hl hlk hsk
  exact lv_if_ne hI.1 hI.2.1 hd ht (fun h => kt h H locs la hK hI hP hS hA hl hlk (am_tl hsk)) (fun h => kf h H locs la hK hI hP hS hA hl hlk (am_tl hsk))
theorem gv_if_lt {x : Int32} {off : Int} (tgt : Nat) (hd : decode mi.2.2.1 pc = .ok (.ifCond .lt off, 3)) (ht : (pc : Int) + off = (tgt : Int)) (kt : x < 0 → gv F mi K cells slots tgt ls st M) (kf : ¬ x < 0 → gv F mi K cells slots (pc + 3) ls st M) : gv F mi K cells slots pc ls (.inl x :: st) M := by
  intro H locs la hK hI hP hS hA hl hlk hsk
  exact lv_if_lt hI.1 hI.2.1 hd ht (fun h => kt h H locs la hK hI hP hS hA hl hlk (am_tl hsk)) (fun h => kf h H locs la hK hI hP hS hA hl hlk (am_tl hsk))
theorem gv_if_ge {x : Int32} {off : Int} (tgt : Nat) (hd : decode mi.2.2.1 pc = .ok (.ifCond .ge off, 3)) (ht : (pc : Int) + off = (tgt : Int)) (kt : 0 ≤ x → gv F mi K cells slots tgt ls st M) (kf : ¬ 0 ≤ x → gv F mi K cells slots (pc + 3) ls st M) : gv F mi K cells slots pc ls (.inl x :: st) M := by
  intro H locs la hK hI hP hS hA hl hlk hsk
  exact lv_if_ge hI.1 hI.2.1 hd ht (fun h => kt h H locs la hK hI hP hS hA hl hlk (am_tl hsk)) (fun h => kf h H locs la hK hI hP hS hA hl hlk (am_tl hsk))
theorem gv_if_gt {x : Int32} {off : Int} (tgt : Nat) (hd : decode mi.2.2.1 pc = .ok (.ifCond .gt off, 3)) (ht : (pc : Int) + off = (tgt : Int)) (kt : 0 < x → gv F mi K cells slots tgt ls st M) (kf : ¬ 0 < x → gv F mi K cells slots (pc + 3) ls st M) : gv F mi K cells slots pc ls (.inl x :: st) M := by
  intro H locs la hK hI hP hS hA hl hlk hsk
  exact lv_if_gt hI.1 hI.2.1 hd ht (fun h => kt h H locs la hK hI hP hS hA hl hlk (am_tl hsk)) (fun h => kf h H locs la hK hI hP hS hA hl hlk (am_tl hsk))
theorem gv_if_le {x : Int32} {off : Int} (tgt : Nat) (hd : decode mi.2.2.1 pc = .ok (.ifCond .le off, 3)) (ht : (pc : Int) + off = (tgt : Int)) (kt : x ≤ 0 → gv F mi K cells slots tgt ls st M) (kf : ¬ x ≤ 0 → gv F mi K cells slots (pc + 3) ls st M) : gv F mi K cells slots pc ls (.inl x :: st) M := by
  intro H locs la hK hI hP hS hA hl hlk hsk
  exact lv_if_le hI.1 hI.2.1 hd ht (fun h => kt h H locs la hK hI hP hS hA hl hlk (am_tl hsk)) (fun h => kf h H locs la hK hI hP hS hA hl hlk (am_tl hsk))
theorem gv_icmp_eq {x y : Int32} {off : Int} (tgt : Nat) (hd : decode mi.2.2.1 pc = .ok (.if_icmp .eq off, 3)) (ht : (pc : Int) + off = (tgt : Int)) (kt : x = y → gv F mi K cells slots tgt ls st M) (kf : ¬ x = y → gv F mi K cells slots (pc + 3) ls st M) : gv F mi K cells slots pc ls (.inl y :: .inl x :: st) M := by
  intro H locs la hK hI hP hS hA hl hlk hsk
  exact lv_icmp_eq hI.1 hI.2.1 hd ht (fun h => kt h H locs la hK hI hP hS hA hl hlk (am_tl (am_tl hsk))) (fun h => kf h H locs la hK hI hP hS hA hl hlk (am_tl (am_tl hsk)))
theorem gv_icmp_ne {x y : Int32} {off : Int} (tgt : Nat) (hd : decode mi.2.2.1 pc = .ok (.if_icmp .ne off, 3)) (ht : (pc : Int) + off = (tgt : Int)) (kt : ¬ x = y → gv F mi K cells slots tgt ls st M) (kf : x = y → gv F mi K cells slots (pc + 3) ls st M) : gv F mi K cells slots pc ls (.inl y :: .inl x :: st) M := by
  intro H locs la hK hI hP hS hA hl hlk hsk
  exact lv_icmp_ne hI.1 hI.2.1 hd ht (fun h => kt h H locs la hK hI hP hS hA hl hlk (am_tl (am_tl hsk))) (fun h => kf h H locs la hK hI hP hS hA hl hlk (am_tl (am_tl hsk)))
theorem gv_icmp_lt {x y : Int32} {off : Int} (tgt : Nat) (hd : decode mi.2.2.1 pc = .ok (.if_icmp .lt off, 3)) (ht : (pc : Int) + off = (tgt : Int)) (kt : x < y → gv F mi K cells slots tgt ls st M) (kf : ¬ x < y → gv F mi K cells slots (pc + 3) ls st M) : gv F mi K cells slots pc ls (.inl y :: .inl x :: st) M := by
  intro H locs la hK hI hP hS hA hl hlk hsk
  exact lv_icmp_lt hI.1 hI.2.1 hd ht (fun h => kt h H locs la hK hI hP hS hA hl hlk (am_tl (am_tl hsk))) (fun h => kf h H locs la hK hI hP hS hA hl hlk (am_tl (am_tl hsk)))
theorem gv_icmp_ge {x y : Int32} {off : Int} (tgt : Nat) (hd : decode mi.2.2.1 pc = .ok (.if_icmp .ge off, 3)) (ht : (pc : Int) + off = (tgt : Int)) (kt : y ≤ x → gv F mi K cells slots tgt ls st M) (kf : ¬ y ≤ x → gv F mi K cells slots (pc + 3) ls st M) : gv F mi K cells slots pc ls (.inl y :: .inl x :: st) M := by
  intro H locs la hK hI hP hS hA hl hlk hsk
  exact lv_icmp_ge hI.1 hI.2.1 hd ht (fun h => kt h H locs la hK hI hP hS hA hl hlk (am_tl (am_tl hsk))) (fun h => kf h H locs la hK hI hP hS hA hl hlk (am_tl (am_tl hsk)))
theorem gv_icmp_gt {x y : Int32} {off : Int} (tgt : Nat) (hd : decode mi.2.2.1 pc = .ok (.if_icmp .gt off, 3)) (ht : (pc : Int) + off = (tgt : Int)) (kt : y < x → gv F mi K cells slots tgt ls st M) (kf : ¬ y < x → gv F mi K cells slots (pc + 3) ls st M) : gv F mi K cells slots pc ls (.inl y :: .inl x :: st) M := by
  intro H locs la hK hI hP hS hA hl hlk hsk
  exact lv_icmp_gt hI.1 hI.2.1 hd ht (fun h => kt h H locs la hK hI hP hS hA hl hlk (am_tl (am_tl hsk))) (fun h => kf h H locs la hK hI hP hS hA hl hlk (am_tl (am_tl hsk)))
theorem gv_icmp_le {x y : Int32} {off : Int} (tgt : Nat) (hd : decode mi.2.2.1 pc = .ok (.if_icmp .le off, 3)) (ht : (pc : Int) + off = (tgt : Int)) (kt : x ≤ y → gv F mi K cells slots tgt ls st M) (kf : ¬ x ≤ y → gv F mi K cells slots (pc + 3) ls st M) : gv F mi K cells slots pc ls (.inl y :: .inl x :: st) M := by
  intro H locs la hK hI hP hS hA hl hlk hsk
  exact lv_icmp_le hI.1 hI.2.1 hd ht (fun h => kt h H locs la hK hI hP hS hA hl hlk (am_tl (am_tl hsk))) (fun h => kf h H locs la hK hI hP hS hA hl hlk (am_tl (am_tl hsk)))
theorem gv_goto {off : Int} (tgt : Nat) (hd : decode mi.2.2.1 pc = .ok (.goto off, 3)) (ht : (pc : Int) + off = (tgt : Int)) (k : gv F mi K cells slots tgt ls st M) : gv F mi K cells slots pc ls st M := by
  intro H locs la hK hI hP hS hA hl hlk hsk
  exact lv_goto hI.1 hI.2.1 hd ht (k H locs la hK hI hP hS hA hl hlk hsk)
theorem gv_swIn {dflt lo hi : Int} {offs : Array Int} {len : Nat} {x : Int32} {off : Int} (tgt : Nat) (hd : decode mi.2.2.1 pc = .ok (.tableswitch dflt lo hi offs, len)) (h1 : ¬ x.toInt < lo) (h2 : ¬ hi < x.toInt) (ho : offs[(x.toInt - lo).toNat]? = some off) (ht : (pc : Int) + off = (tgt : Int)) (k : gv F mi K cells slots tgt ls st M) : gv F mi K cells slots pc ls (.inl x :: st) M := by
  intro H locs la hK hI hP hS hA hl hlk hsk
  exact lv_tableIn hI.1 hI.2.1 hd h1 h2 ho ht (k H locs la hK hI hP hS hA hl hlk (am_tl hsk))
theorem gv_swOut {dflt lo hi : Int} {offs : Array Int} {len : Nat} {x : Int32} (tgt : Nat) (hd : decode mi.2.2.1 pc = .ok (.tableswitch dflt lo hi offs, len)) (h : x.toInt < lo ∨ hi < x.toInt) (ht : (pc : Int) + dflt = (tgt : Int)) (k : gv F mi K cells slots tgt ls st M) : gv F mi K cells slots pc ls (.inl x :: st) M := by
  intro H locs la hK hI hP hS hA hl hlk hsk
  exact lv_tableOut hI.1 hI.2.1 hd h ht (k H locs la hK hI hP hS hA hl hlk (am_tl hsk))
theorem gv_getI {k o i idx ci N j : Nat} {f : Nat → am_F} (hd : decode mi.2.2.1 pc = .ok (.getfield idx, 3)) (hl0 : am_FL mi.1 idx ci N j) (hs : am_sh k = .inl (ci, N, f)) (hf : f j = .inl 0) (hk : k < 9000) (kk : gv F mi K cells slots (pc + 3) ls (.inl (M.1 k o i j) :: st) M) : gv F mi K cells slots pc ls (.inr (.inr (k, o, i)) :: st) M := by
  intro H locs la hK hI hP hS hA hl hlk hsk
  obtain ⟨C, T, hc, hj, hlink, hin, -⟩ := hl0
  have hq : (k, o, i) ∈ am_dom K := am_in hk (am_hd hsk)
  obtain ⟨q0, hq0⟩ := am_place hq
  have he := am_wsK M hq0
  rw [am_e_obj hs] at he
  exact va_get (D := am_D K) (cl := vwCl) (tys := am_tys K) (ws := am_ws K M) (Ts := am_T) (ref := (T j).1) (v := .int (M.1 k o i j)) hI.1 hI.2.1 hI.2.2.2.2.2.1 hin hI.2.2.2.2.1 hI.2.2.2.2.2.2.2.1 hP q0 he hc j hj (hI.2.2.2.2.2.1 _ hlink) (fun _ h => h) (by rw [am_rg hj, hf]; rfl) hd (kk H locs la hK hI hP hS hA hl hlk (am_cs trivial (am_tl hsk)))
theorem gv_getL {k o i idx ci N j : Nat} {f : Nat → am_F} (hd : decode mi.2.2.1 pc = .ok (.getfield idx, 3)) (hl0 : am_FL mi.1 idx ci N j) (hs : am_sh k = .inl (ci, N, f)) (hf : f j = .inl 1) (hk : k < 9000) (kk : gv F mi K cells slots (pc + 3) ls (.inr (.inl (M.2 k o i j)) :: st) M) : gv F mi K cells slots pc ls (.inr (.inr (k, o, i)) :: st) M := by
  intro H locs la hK hI hP hS hA hl hlk hsk
  obtain ⟨C, T, hc, hj, hlink, hin, -⟩ := hl0
  have hq : (k, o, i) ∈ am_dom K := am_in hk (am_hd hsk)
  obtain ⟨q0, hq0⟩ := am_place hq
  have he := am_wsK M hq0
  rw [am_e_obj hs] at he
  exact va_get (D := am_D K) (cl := vwCl) (tys := am_tys K) (ws := am_ws K M) (Ts := am_T) (ref := (T j).1) (v := .long (M.2 k o i j)) hI.1 hI.2.1 hI.2.2.2.2.2.1 hin hI.2.2.2.2.1 hI.2.2.2.2.2.2.2.1 hP q0 he hc j hj (hI.2.2.2.2.2.1 _ hlink) (fun _ h => h) (by rw [am_rg hj, hf]; rfl) hd (kk H locs la hK hI hP hS hA hl hlk (am_cs trivial (am_tl hsk)))
theorem gv_getR {k o i idx ci N j : Nat} {f : Nat → am_F} {k' o' : Nat} {ob : Option Nat} (hd : decode mi.2.2.1 pc = .ok (.getfield idx, 3)) (hl0 : am_FL mi.1 idx ci N j) (hs : am_sh k = .inl (ci, N, f)) (hf : f j = .inr (k', ob)) (ho : ob.getD o = o') (hk : k < 9000) (kk : gv F mi K cells slots (pc + 3) ls ((.inr (.inr (k', o', 0))) :: st) M) : gv F mi K cells slots pc ls (.inr (.inr (k, o, i)) :: st) M := by
  intro H locs la hK hI hP hS hA hl hlk hsk
  obtain ⟨C, T, hc, hj, hlink, hin, -⟩ := hl0
  have hq : (k, o, i) ∈ am_dom K := am_in hk (am_hd hsk)
  obtain ⟨q0, hq0⟩ := am_place hq
  have he := am_wsK M hq0
  rw [am_e_obj hs] at he
  have hmem : (k', o', 0) ∈ am_dom K := by
    have := hK.2.2.1 (k, o, i) hq ci N f j (k', ob) hs hj hf
    rw [← ho]
    exact this
  exact va_get (D := am_D K) (cl := vwCl) (tys := am_tys K) (ws := am_ws K M) (Ts := am_T) (ref := (T j).1) (v := Value.ref (am_ad K (k', o', 0))) hI.1 hI.2.1 hI.2.2.2.2.2.1 hin hI.2.2.2.2.1 hI.2.2.2.2.2.2.2.1 hP q0 he hc j hj (hI.2.2.2.2.2.1 _ hlink) (fun _ h => h) (by rw [am_rg hj, hf, ← ho]; rfl) hd (kk H locs la hK hI hP hS hA hl hlk (am_cs (Or.inl hmem) (am_tl hsk)))
theorem gv_putI {k o i idx ci N j : Nat} {f : Nat → am_F} {x : Int32} {ty : FieldType} (hd : decode mi.2.2.1 pc = .ok (.putfield idx, 3)) (hl0 : am_FL mi.1 idx ci N j) (hfp : am_FP ci j ty) (hs : am_sh k = .inl (ci, N, f)) (hf : f j = .inl 0) (hn : narrow ty (.int x) = .int x) (hfit : fits ty (.int x) = true) (hk : k < 9000) (kk : gv F mi K cells slots (pc + 3) ls st (am_si M k o i j x)) : gv F mi K cells slots pc ls (.inl x :: .inr (.inr (k, o, i)) :: st) M := by
  intro H locs la hK hI hP hS hA hl hlk hsk
  obtain ⟨C, T, hc, hj, hlink, hin, ty0, hty, hnm⟩ := hl0
  obtain ⟨q, hq1, hq2, hq3⟩ := hfp
  cases (hc.symm.trans hq1)
  have hq : (k, o, i) ∈ am_dom K := am_in hk (am_hd (am_tl hsk))
  obtain ⟨q0, hq0⟩ := am_place hq
  have he := am_wsK M hq0
  rw [am_e_obj hs] at he
  refine va_put (D := am_D K) (cl := vwCl) (tys := am_tys K) (ws := am_ws K M) (Ts := am_T) (ref := (T j).1) (v := .int x) (ty := ty) hI.1 hI.2.1 hI.2.2.2.2.2.1 hin ty0 hty hnm hI.2.2.2.2.1 hI.2.2.2.2.2.2.2.1 hP (am_wsD0 hK M hA) hS q0 he hc j hj (hI.2.2.2.2.2.1 _ hlink) (fun _ h => h) hq2 hq3 hn hfit (by rw [List.length_map, List.length_range]; exact hj) hd (fun H1 locs1 hP1 _ hS1 => ?_)
  rw [am_putI_f hf, am_wsS (M' := am_si M k o i j x) hK hq0 (am_e_obj hs) (fun r hr => am_si_e hr)] at hP1
  exact kk H1 locs1 la hK hI hP1 hS1 hA hl hlk (am_tl (am_tl hsk))
theorem gv_putL {k o i idx ci N j : Nat} {f : Nat → am_F} {x : Int64} {ty : FieldType} (hd : decode mi.2.2.1 pc = .ok (.putfield idx, 3)) (hl0 : am_FL mi.1 idx ci N j) (hfp : am_FP ci j ty) (hs : am_sh k = .inl (ci, N, f)) (hf : f j = .inl 1) (hn : narrow ty (.long x) = .long x) (hfit : fits ty (.long x) = true) (hk : k < 9000) (kk : gv F mi K cells slots (pc + 3) ls st (am_sl M k o i j x)) : gv F mi K cells slots pc ls (.inr (.inl x) :: .inr (.inr (k, o, i)) :: st) M := by
  intro H locs la hK hI hP hS hA hl hlk hsk
  obtain ⟨C, T, hc, hj, hlink, hin, ty0, hty, hnm⟩ := hl0
  obtain ⟨q, hq1, hq2, hq3⟩ := hfp
  cases (hc.symm.trans hq1)
  have hq : (k, o, i) ∈ am_dom K := am_in hk (am_hd (am_tl hsk))
  obtain ⟨q0, hq0⟩ := am_place hq
  have he := am_wsK M hq0
  rw [am_e_obj hs] at he
  refine va_put (D := am_D K) (cl := vwCl) (tys := am_tys K) (ws := am_ws K M) (Ts := am_T) (ref := (T j).1) (v := .long x) (ty := ty) hI.1 hI.2.1 hI.2.2.2.2.2.1 hin ty0 hty hnm hI.2.2.2.2.1 hI.2.2.2.2.2.2.2.1 hP (am_wsD0 hK M hA) hS q0 he hc j hj (hI.2.2.2.2.2.1 _ hlink) (fun _ h => h) hq2 hq3 hn hfit (by rw [List.length_map, List.length_range]; exact hj) hd (fun H1 locs1 hP1 _ hS1 => ?_)
  rw [am_putL_f hf, am_wsS (M' := am_sl M k o i j x) hK hq0 (am_e_obj hs) (fun r hr => am_sl_e hr)] at hP1
  exact kk H1 locs1 la hK hI hP1 hS1 hA hl hlk (am_tl (am_tl hsk))
theorem gv_iaload {k o i n : Nat} {x : Int32} (hd : decode mi.2.2.1 pc = .ok (.iaload, 1)) (hs : am_sh k = .inr (.inl (0, n))) (hk : k < 9000) (hin : vp_in x n) (kk : gv F mi K cells slots (pc + 1) ls (.inl (M.1 k o i x.toNatClampNeg) :: st) M) : gv F mi K cells slots pc ls (.inl x :: .inr (.inr (k, o, i)) :: st) M := by
  intro H locs la hK hI hP hS hA hl hlk hsk
  obtain ⟨q0, hq0⟩ := am_place (am_in hk (am_hd (am_tl hsk)))
  have he := am_wsK M hq0
  rw [am_e_int hs] at he
  exact va_iald (D := am_D K) (cl := vwCl) (tys := am_tys K) (ws := am_ws K M) hI.1 hI.2.1 hI.2.2.2.2.2.2.2.1 hP q0 0 he rfl hin hd (kk H locs la hK hI hP hS hA hl hlk (am_cs trivial (am_tl (am_tl hsk))))
theorem gv_zaload {k o i n : Nat} {x : Int32} (hd : decode mi.2.2.1 pc = .ok (.baload, 1)) (hs : am_sh k = .inr (.inl (1, n))) (hk : k < 9000) (hin : vp_in x n) (kk : gv F mi K cells slots (pc + 1) ls (.inl (M.1 k o i x.toNatClampNeg) :: st) M) : gv F mi K cells slots pc ls (.inl x :: .inr (.inr (k, o, i)) :: st) M := by
  intro H locs la hK hI hP hS hA hl hlk hsk
  obtain ⟨q0, hq0⟩ := am_place (am_in hk (am_hd (am_tl hsk)))
  have he := am_wsK M hq0
  rw [am_e_bool hs] at he
  exact va_zald (D := am_D K) (cl := vwCl) (tys := am_tys K) (ws := am_ws K M) hI.1 hI.2.1 hI.2.2.2.2.2.2.2.1 hP q0 1 he rfl hin hd (kk H locs la hK hI hP hS hA hl hlk (am_cs trivial (am_tl (am_tl hsk))))
theorem gv_laload {k o i n : Nat} {x : Int32} (hd : decode mi.2.2.1 pc = .ok (.laload, 1)) (hs : am_sh k = .inr (.inl (2, n))) (hk : k < 9000) (hin : vp_in x n) (kk : gv F mi K cells slots (pc + 1) ls (.inr (.inl (M.2 k o i x.toNatClampNeg)) :: st) M) : gv F mi K cells slots pc ls (.inl x :: .inr (.inr (k, o, i)) :: st) M := by
  intro H locs la hK hI hP hS hA hl hlk hsk
  obtain ⟨q0, hq0⟩ := am_place (am_in hk (am_hd (am_tl hsk)))
  have he := am_wsK M hq0
  rw [am_e_long hs] at he
  exact va_lald (D := am_D K) (cl := vwCl) (tys := am_tys K) (ws := am_ws K M) hI.1 hI.2.1 hI.2.2.2.2.2.2.2.1 hP q0 2 he rfl hin hd (kk H locs la hK hI hP hS hA hl hlk (am_cs trivial (am_tl (am_tl hsk))))
theorem gv_iastore {k o i n : Nat} {x : Int32} {v : Int32} (hd : decode mi.2.2.1 pc = .ok (.iastore, 1)) (hs : am_sh k = .inr (.inl (0, n))) (hk : k < 9000) (hin : vp_in x n) (kk : gv F mi K cells slots (pc + 1) ls st (am_si M k o i x.toNatClampNeg v)) : gv F mi K cells slots pc ls (.inl v :: .inl x :: .inr (.inr (k, o, i)) :: st) M := by
  intro H locs la hK hI hP hS hA hl hlk hsk
  obtain ⟨q0, hq0⟩ := am_place (am_in hk (am_hd (am_tl (am_tl hsk))))
  have he := am_wsK M hq0
  rw [am_e_int hs] at he
  refine va_iast (D := am_D K) (cl := vwCl) (tys := am_tys K) (ws := am_ws K M) hI.1 hI.2.1 hI.2.2.2.2.2.2.2.1 hP (am_wsD0 hK M hA) hS q0 0 he rfl hin hd (fun H1 locs1 hP1 _ hS1 => ?_)
  have hu : upd (fun j => M.1 k o i j) x.toNatClampNeg v = (fun j => (am_si M k o i x.toNatClampNeg v).1 k o i j) := funext fun j => by simp [upd, am_si]
  rw [hu, am_wsS (M' := am_si M k o i x.toNatClampNeg v) hK hq0 (am_e_int hs) (fun r hr => am_si_e hr)] at hP1
  exact kk H1 locs1 la hK hI hP1 hS1 hA hl hlk (am_tl (am_tl (am_tl hsk)))
theorem gv_zastore {k o i n : Nat} {x : Int32} {v : Int32} (hd : decode mi.2.2.1 pc = .ok (.bastore, 1)) (hs : am_sh k = .inr (.inl (1, n))) (hk : k < 9000) (hin : vp_in x n) (hv : vp_nar .boolean v = v) (kk : gv F mi K cells slots (pc + 1) ls st (am_si M k o i x.toNatClampNeg v)) : gv F mi K cells slots pc ls (.inl v :: .inl x :: .inr (.inr (k, o, i)) :: st) M := by
  intro H locs la hK hI hP hS hA hl hlk hsk
  obtain ⟨q0, hq0⟩ := am_place (am_in hk (am_hd (am_tl (am_tl hsk))))
  have he := am_wsK M hq0
  rw [am_e_bool hs] at he
  refine va_zast (D := am_D K) (cl := vwCl) (tys := am_tys K) (ws := am_ws K M) hI.1 hI.2.1 hI.2.2.2.2.2.2.2.1 hP (am_wsD0 hK M hA) hS q0 1 he rfl hin hd (fun H1 locs1 hP1 _ hS1 => ?_)
  rw [hv] at hP1
  have hu : upd (fun j => M.1 k o i j) x.toNatClampNeg v = (fun j => (am_si M k o i x.toNatClampNeg v).1 k o i j) := funext fun j => by simp [upd, am_si]
  rw [hu, am_wsS (M' := am_si M k o i x.toNatClampNeg v) hK hq0 (am_e_bool hs) (fun r hr => am_si_e hr)] at hP1
  exact kk H1 locs1 la hK hI hP1 hS1 hA hl hlk (am_tl (am_tl (am_tl hsk)))
theorem gv_lastore {k o i n : Nat} {x : Int32} {v : Int64} (hd : decode mi.2.2.1 pc = .ok (.lastore, 1)) (hs : am_sh k = .inr (.inl (2, n))) (hk : k < 9000) (hin : vp_in x n) (kk : gv F mi K cells slots (pc + 1) ls st (am_sl M k o i x.toNatClampNeg v)) : gv F mi K cells slots pc ls (.inr (.inl v) :: .inl x :: .inr (.inr (k, o, i)) :: st) M := by
  intro H locs la hK hI hP hS hA hl hlk hsk
  obtain ⟨q0, hq0⟩ := am_place (am_in hk (am_hd (am_tl (am_tl hsk))))
  have he := am_wsK M hq0
  rw [am_e_long hs] at he
  refine va_last (D := am_D K) (cl := vwCl) (tys := am_tys K) (ws := am_ws K M) hI.1 hI.2.1 hI.2.2.2.2.2.2.2.1 hP (am_wsD0 hK M hA) hS q0 2 he rfl hin hd (fun H1 locs1 hP1 _ hS1 => ?_)
  have hu : vp_updL (fun j => M.2 k o i j) x.toNatClampNeg v = (fun j => (am_sl M k o i x.toNatClampNeg v).2 k o i j) := funext fun j => by simp [vp_updL, am_sl]
  rw [hu, am_wsS (M' := am_sl M k o i x.toNatClampNeg v) hK hq0 (am_e_long hs) (fun r hr => am_sl_e hr)] at hP1
  exact kk H1 locs1 la hK hI hP1 hS1 hA hl hlk (am_tl (am_tl (am_tl hsk)))
theorem gv_aaload {k o i t n : Nat} {g : Nat → Nat → am_L} {ty : FieldType} {x : Int32} (hd : decode mi.2.2.1 pc = .ok (.aaload, 1)) (hs : am_sh k = .inr (.inr (t, n, g))) (ht : (am_tys K)[t]? = some (am_cA K t, ty)) (hty : ty.isReference = true) (hk : k < 9000) (hin : vp_in x n) (kk : gv F mi K cells slots (pc + 1) ls (.inr (.inr (g o x.toNatClampNeg)) :: st) M) : gv F mi K cells slots pc ls (.inl x :: .inr (.inr (k, o, i)) :: st) M := by
  intro H locs la hK hI hP hS hA hl hlk hsk
  have hq := am_in hk (am_hd (am_tl hsk))
  obtain ⟨q0, hq0⟩ := am_place hq
  have he := am_wsK M hq0
  rw [am_e_ref hs] at he
  have hlt : x.toNatClampNeg < n := Nat.not_le.mp fun q => hin (Or.inr q)
  exact W.aald (v := .ref (am_ad K (g o x.toNatClampNeg))) (ty := ty) hI.1 hI.2.1 (hP q0 _ he) ((hI.2.2.2.2.2.2.2.1.2 t _ ht).1 n (fun j => va_rf (some (am_ad K (g o j))))) hty (fun q => by cases q) (by show ¬ (x < 0 ∨ (arrV _ _ _).slots.size ≤ _); rw [arrV_size]; exact hin) (by show (arrV _ _ _).slots[_]? = _; rw [arrV_read _ _ hlt]; rfl) rfl rfl hd (kk H locs la hK hI hP hS hA hl hlk (am_cs (Or.inl (hK.2.2.2 (k, o, i) hq t n g _ hs hlt)) (am_tl (am_tl hsk))))
theorem gv_alen {k o i t n : Nat} {v : Int32} (hd : decode mi.2.2.1 pc = .ok (.arraylength, 1)) (hs : am_sh k = .inr (.inl (t, n))) (ht : t < 3) (hk : k < 9000) (hv : Int32.ofNat n = v) (kk : gv F mi K cells slots (pc + 1) ls (.inl v :: st) M) : gv F mi K cells slots pc ls (.inr (.inr (k, o, i)) :: st) M := by
  intro H locs la hK hI hP hS hA hl hlk hsk
  obtain ⟨q0, hq0⟩ := am_place (am_in hk (am_hd hsk))
  have he := am_wsK M hq0
  have hX : ∃ z, am_e K M (k, o, i) = .inl (am_cA K t, n, z) := by
    rcases t with _ | _ | _ | t
    · exact ⟨_, am_e_int hs⟩
    · exact ⟨_, am_e_bool hs⟩
    · exact ⟨_, am_e_long hs⟩
    · omega
  obtain ⟨z, hz⟩ := hX
  rw [hz] at he
  have hty : ∃ ty, (am_tys K)[t]? = some (am_cA K t, ty) := by
    rcases t with _ | _ | _ | t
    · exact ⟨_, rfl⟩
    · exact ⟨_, rfl⟩
    · exact ⟨_, rfl⟩
    · omega
  obtain ⟨ty, hty⟩ := hty
  exact va_alen (D := am_D K) (cl := vwCl) (tys := am_tys K) (ws := am_ws K M) hI.1 hI.2.1 hI.2.2.2.2.2.2.2.1 hP q0 t he hty hv hd (kk H locs la hK hI hP hS hA hl hlk (am_cs trivial (am_tl hsk)))
theorem gv_tabI {q o i N : Nat} {f : Nat → Int32} {x : Int32} (hd : decode mi.2.2.1 pc = .ok (.iaload, 1)) (hT : va_T .int (am_ad K (q, o, i)) N (fun j => .int (f j)) F.2.2.2.2.2.2.2.2.2.2 F.2.2.2.1 F.2.2.2.1.heap) (hin : vp_in x N) (kk : gv F mi K cells slots (pc + 1) ls (.inl (f x.toNatClampNeg) :: st) M) : gv F mi K cells slots pc ls (.inl x :: .inr (.inr (q, o, i)) :: st) M := by
  intro H locs la hK hI hP hS hA hl hlk hsk
  exact va_ti hI.1 hI.2.1 hT hS hin rfl hd (kk H locs la hK hI hP hS hA hl hlk (am_cs trivial (am_tl (am_tl hsk))))
theorem gv_tabN {q o i N : Nat} {ty : FieldType} {f : Nat → Value} {v : Int32} (hd : decode mi.2.2.1 pc = .ok (.arraylength, 1)) (hT : va_T ty (am_ad K (q, o, i)) N f F.2.2.2.2.2.2.2.2.2.2 F.2.2.2.1 F.2.2.2.1.heap) (hv : Int32.ofNat N = v) (kk : gv F mi K cells slots (pc + 1) ls (.inl v :: st) M) : gv F mi K cells slots pc ls (.inr (.inr (q, o, i)) :: st) M := by
  intro H locs la hK hI hP hS hA hl hlk hsk
  exact va_tlen hI.1 hI.2.1 hT hS hv hd (kk H locs la hK hI hP hS hA hl hlk (am_cs trivial (am_tl hsk)))
theorem gv_drop {ls' : List (Nat × am_V)} (ks : List Nat) (h : am_pick ls ks = ls') (k : gv F mi K cells slots pc ls' st M) : gv F mi K cells slots pc ls st M := gv_less (fun q hq => am_pick_in (h ▸ hq)) k
theorem gv_mem {M1 : am_M} (h : M1 = M) (k : gv F mi K cells slots pc ls st M1) : gv F mi K cells slots pc ls st M := h ▸ k
theorem gv_top {v w : am_V} (h : w = v) (k : gv F mi K cells slots pc ls (w :: st) M) : gv F mi K cells slots pc ls (v :: st) M := h ▸ k
theorem gv_topI {v w : Int32} (h : w = v) (k : gv F mi K cells slots pc ls (.inl w :: st) M) : gv F mi K cells slots pc ls (.inl v :: st) M := h ▸ k
theorem gv_topL {v w : Int64} (h : w = v) (k : gv F mi K cells slots pc ls (.inr (.inl w) :: st) M) : gv F mi K cells slots pc ls (.inr (.inl v) :: st) M := h ▸ k
theorem gv_after {H : Heap} {locs : List Loc} {la : Array Slot} {st0 : List Value} {a : Array Value} {post' : Option am_V → am_M → Prop}
    (hr : va_Run F.1 (am_l K) F.2.1 F.2.2.1 F.2.2.2.1 F.2.2.2.2.1 F.2.2.2.2.2.1 F.2.2.2.2.2.2.1 F.2.2.2.2.2.2.2.1 F.2.2.2.2.2.2.2.2.1 H locs cells slots 0 0 (F0 F.2.2.2.2.1 pc la st0) (st.map (am_v K)) (am_Q K post' a) (am_A K)) (hK : am_ok K) (hI : am_I K mi F.1 F.2.2.2.1 F.2.2.2.2.1 F.2.2.2.2.2.1 F.2.2.2.2.2.2.2.1 F.2.2.2.2.2.2.2.2.1) (hS : va_S F.2.2.2.2.2.2.2.2.2.2 F.2.2.2.1.heap H locs) (hA : ∀ a, am_A K a → F.2.2.2.2.2.2.2.2.2.2 a) (hl : lv_has la mi.2.2.2.1 (am_ls K ls)) (hlk : ∀ q ∈ ls, am_vk K q.2) (hsk : ∀ v ∈ st, am_vk K v)
    (kk : ∀ r M', post' r M' → gv F mi K cells slots (pc + 3) ls (r.toList ++ st) M') :
    W F.1 (am_l K) F.2.1 F.2.2.1 F.2.2.2.1 F.2.2.2.2.1 F.2.2.2.2.2.1 F.2.2.2.2.2.2.1 F.2.2.2.2.2.2.2.1 F.2.2.2.2.2.2.2.2.1 H locs cells slots F.2.2.2.2.2.2.2.2.2.1 (F0 F.2.2.2.2.1 pc la st0) := by
  intro T hT X
  obtain ⟨v, st₀, t, T', L, h0, X', hL, e1, e2, ⟨⟨r, M', hv, hp, hrk, hb⟩, hz, hk⟩, stp⟩ := hr T hT X
  have hv' : v = r.map (am_v K) := by injection hv
  subst hv'
  rw [h0] at hz hk
  have hS1 : va_S F.2.2.2.2.2.2.2.2.2.2 F.2.2.2.1.heap T'.heap (locs ++ L) := ⟨Nat.le_trans hS.1 (by rw [e1]; exact hz), fun q h1 h2 => by rw [e1, hk q (Nat.lt_of_lt_of_le h1 hS.1) (fun z => h2 (hA q z))]; exact hS.2.1 q h1 h2, fun q hq => by
      rcases List.mem_append.mp hq with h | h
      · exact hS.2.2 q h
      · exact hA _ (hL q h)⟩
  obtain ⟨t2, a1, b1⟩ := kk r M' hp T'.heap (locs ++ L) la hK hI (by rw [e1]; exact hb) hS1 hA hl hlk (fun w hw => by
      rcases List.mem_append.mp hw with h | h
      · exact hrk w (by cases r with | none => cases h | some r0 => exact (by rw [List.mem_singleton.mp h]; rfl))
      · exact hsk w h) T' rfl X'
  refine ⟨t2, stp t2 ?_, b1⟩
  have e9 : (r.toList ++ st).map (am_v K) = (r.map (am_v K)).toList ++ st.map (am_v K) := by cases r <;> rfl
  rw [e9] at a1
  exact a1
theorem gv_preS {F : gv_F} {K : am_K} {mi : am_Mi} {H : Heap} {locs : List Loc} {M : am_M} (hI : am_I K mi F.1 F.2.2.2.1 F.2.2.2.2.1 F.2.2.2.2.2.1 F.2.2.2.2.2.2.2.1 F.2.2.2.2.2.2.2.2.1) (hS : va_S F.2.2.2.2.2.2.2.2.2.2 F.2.2.2.1.heap H locs) (hX : ∀ U : State, U.heap = H → F.2.2.2.1.WarmedH U.vm → am_X K U) (hK : am_ok K) (hP : va_P (am_D K) vwCl (am_ws K M) H) {as : List am_V} (hk : ∀ v ∈ as, am_vk K v) : ∀ U : State, U.heap = H → F.2.2.2.1.WarmedH U.vm → am_Pc K as M (as.map (am_v K)).toArray U := fun U hU hW => by
  have hx := hX U hU hW
  subst hU
  exact ⟨rfl, hK, hk, hP, va_K.moved hW.alike hI.2.2.2.2.2.2.2.1, hx⟩
/-- what stands outside the small world holds on where only new cells or the small world's were written -/
def gv_old (F : gv_F) (K : am_K) : Prop := ∀ (H : Heap) (locs : List Loc), va_S F.2.2.2.2.2.2.2.2.2.2 F.2.2.2.1.heap H locs → am_X K F.2.2.2.1 → ∀ U : State, U.heap = H → F.2.2.2.1.WarmedH U.vm → am_X K U
theorem gv_callV {d : Nat} {idx n ci N : Nat} {k o i : Nat} {f : Nat → am_F} {as sk : List am_V} {mi' : am_Mi} {post' : Option am_V → am_M → Prop} (hold : gv_old F K) (hR : d + 1 ≤ F.2.2.1.frames ∧ 60 * (d + 1) ≤ F.2.2.1.locals ∧ cells ≤ F.2.2.1.cells ∧ slots ≤ F.2.2.1.slots) (hd : decode mi.2.2.1 pc = .ok (.invokevirtual idx, 3)) (hc : am_CV mi.1 idx mi') (hB : am_CB mi' n) (hs : am_sh k = .inl (ci, N, f)) (hci : (vwCl[ci]?).map (fun q => q.1) = some mi'.1) (hk : k < 9000) (hn : as.length = n) (hst : sk = as.reverse ++ .inr (.inr (k, o, i)) :: st) (hw : (st.map am_cat).sum ≤ 8)
    (hM : am_Met K d mi' (.inr (.inr (k, o, i)) :: as) M post') (kk : ∀ r M', post' r M' → gv F mi K cells slots (pc + 3) ls (r.toList ++ st) M') : gv F mi K cells slots pc ls sk M := by
  intro H locs la hK hI hP hS hA hl hlk hsk
  subst hst
  have hskA : ∀ v ∈ as, am_vk K v := fun v hv => hsk v (List.mem_append_left _ (List.mem_reverse.mpr hv))
  have hskR : am_vk K (.inr (.inr (k, o, i))) := hsk _ (List.mem_append_right _ List.mem_cons_self)
  have hskS : ∀ v ∈ st, am_vk K v := fun v hv => hsk v (List.mem_append_right _ (List.mem_cons_of_mem _ hv))
  obtain ⟨q0, hq0⟩ := am_place (am_in hk hskR)
  have he := am_wsK M hq0
  rw [am_e_obj hs] at he
  obtain ⟨q, hq1, hq2⟩ : ∃ q, vwCl[ci]? = some q ∧ q.1 = mi'.1 := by
    cases hz : vwCl[ci]? with
    | none => rw [hz] at hci; cases hci
    | some q => rw [hz] at hci; exact ⟨q, rfl, Option.some.inj hci⟩
  have hrecv := va_recv hI.2.2.2.2.2.2.2.1 hP hq1 he
  rw [hq2] at hrecv
  have ht := hI.2.2.2.2.2.1
  have hl41 := hB.2.2.2.2.2
  have hcb : CallB F.2.2.1 F.2.2.2.1 F.2.2.2.2.2.1 mi.1 idx mi'.2.1 mi'.2.2.1 mi'.2.2.2.1 mi'.2.2.2.2 (am_tw mi') (am_R d) 0 0 n :=
    callB_of n ht (am_twG hB) rfl rfl rfl (by rw [hB.2.2.1]; exact ht _ hB.1) (ht _ hc.1) hB.2.2.2.1 ⟨hR.1, by show 8 + (mi'.2.2.2.1 + 11) + 60 * d ≤ _; have := hR.2.1; omega⟩
  have hrun := va_runV (b := am_ad K (k, o, i)) (C := mi'.1) (As := as.map (am_v K)) (rest := st.map (am_v K)) (g := F0 F.2.2.2.2.1 pc la ((as.reverse ++ .inr (.inr (k, o, i)) :: st).map (am_v K))) (cells := cells) (slots := slots) (locs := locs) (e := F.2.1) (below := F.2.2.2.2.2.2.1) (meth := F.2.2.2.2.2.2.2.1) (p := F.1)
    ⟨hI.1, hI.2.1, hI.2.2.2.1, hI.2.2.2.2.1, ht⟩ hM ⟨hcb, ht _ hc.2.1, ht _ hc.2.2⟩ ⟨am_blind, hrecv, gv_preS hI hS (fun U h1 h2 => hold H locs hS hI.2.2.2.2.2.2.2.2 U h1 h2) hK hP (as := .inr (.inr (k, o, i)) :: as) (am_cs hskR hskA)⟩ rfl (by rw [List.length_map]; exact hn) hl.1 (by rw [List.map_append, List.map_reverse]; rfl) (lv_room (by rw [am_catS]; exact hw)) hd ⟨hR.2.2.1, hR.2.2.2⟩
  exact gv_after hrun hK hI hS hA hl hlk hskS kk
theorem gv_callS {d : Nat} {idx n : Nat} {as sk : List am_V} {mi' : am_Mi} {post' : Option am_V → am_M → Prop} (hold : gv_old F K) (hR : d + 1 ≤ F.2.2.1.frames ∧ 60 * (d + 1) ≤ F.2.2.1.locals ∧ cells ≤ F.2.2.1.cells ∧ slots ≤ F.2.2.1.slots) (hd : decode mi.2.2.1 pc = .ok (.invokestatic idx, 3)) (hc : am_CS mi.1 idx mi') (hB : am_CB mi' n) (hn : as.length = n) (hst : sk = as.reverse ++ st) (hw : (st.map am_cat).sum ≤ 8)
    (hM : am_Met K d mi' as M post') (kk : ∀ r M', post' r M' → gv F mi K cells slots (pc + 3) ls (r.toList ++ st) M') : gv F mi K cells slots pc ls sk M := by
  intro H locs la hK hI hP hS hA hl hlk hsk
  subst hst
  have hskA : ∀ v ∈ as, am_vk K v := fun v hv => hsk v (List.mem_append_left _ (List.mem_reverse.mpr hv))
  have hskS : ∀ v ∈ st, am_vk K v := fun v hv => hsk v (List.mem_append_right _ hv)
  have ht := hI.2.2.2.2.2.1
  have hl41 := hB.2.2.2.2.2
  have hcb : CallB F.2.2.1 F.2.2.2.1 F.2.2.2.2.2.1 mi.1 idx mi'.2.1 mi'.2.2.1 mi'.2.2.2.1 mi'.2.2.2.2 (am_tw mi') (am_R d) 0 0 n :=
    callB_of n ht (am_twG hB) rfl rfl rfl (by rw [hB.2.2.1]; exact ht _ hB.1) (ht _ hc.1) hB.2.2.2.1 ⟨hR.1, by show 8 + (mi'.2.2.2.1 + 11) + 60 * d ≤ _; have := hR.2.1; omega⟩
  have hrun := va_runS (As := as.map (am_v K)) (rest := st.map (am_v K)) (g := F0 F.2.2.2.2.1 pc la ((as.reverse ++ st).map (am_v K))) (cells := cells) (slots := slots) (locs := locs) (e := F.2.1) (below := F.2.2.2.2.2.2.1) (meth := F.2.2.2.2.2.2.2.1) (p := F.1)
    ⟨hI.1, hI.2.1, hI.2.2.2.1, hI.2.2.2.2.1, ht⟩ hM ⟨hcb, ht _ hc.2⟩ ⟨am_blind, gv_preS hI hS (fun U h1 h2 => hold H locs hS hI.2.2.2.2.2.2.2.2 U h1 h2) hK hP hskA⟩ rfl (by rw [List.length_map]; exact hn) hl.1 (by rw [List.map_append, List.map_reverse]) (lv_room (by rw [am_catS]; exact hw)) hd ⟨hR.2.2.1, hR.2.2.2⟩
  exact gv_after hrun hK hI hS hA hl hlk hskS kk
theorem gv_callVi (d : Nat) {idx n ci N : Nat} {k o i : Nat} {f : Nat → am_F} {as sk : List am_V} {mi' : am_Mi} {r : Int32} {M1 : am_M} (hold : gv_old F K) (hR : d + 1 ≤ F.2.2.1.frames ∧ 60 * (d + 1) ≤ F.2.2.1.locals ∧ cells ≤ F.2.2.1.cells ∧ slots ≤ F.2.2.1.slots) (hd : decode mi.2.2.1 pc = .ok (.invokevirtual idx, 3)) (hc : am_CV mi.1 idx mi') (hB : am_CB mi' n) (hs : am_sh k = .inl (ci, N, f)) (hci : (vwCl[ci]?).map (fun q => q.1) = some mi'.1) (hk : k < 9000) (hn : as.length = n) (hst : sk = as.reverse ++ .inr (.inr (k, o, i)) :: st) (hw : (st.map am_cat).sum ≤ 8) (hM : am_Met K d mi' (.inr (.inr (k, o, i)) :: as) M (fun q N => q = some (.inl r) ∧ N = M1)) (kk : gv F mi K cells slots (pc + 3) ls (.inl r :: st) M1) : gv F mi K cells slots pc ls sk M :=
  gv_callV hold hR hd hc hB hs hci hk hn hst hw hM (fun q N hq => by obtain ⟨rfl, rfl⟩ := hq; exact kk)
theorem gv_callVl (d : Nat) {idx n ci N : Nat} {k o i : Nat} {f : Nat → am_F} {as sk : List am_V} {mi' : am_Mi} {r : Int64} {M1 : am_M} (hold : gv_old F K) (hR : d + 1 ≤ F.2.2.1.frames ∧ 60 * (d + 1) ≤ F.2.2.1.locals ∧ cells ≤ F.2.2.1.cells ∧ slots ≤ F.2.2.1.slots) (hd : decode mi.2.2.1 pc = .ok (.invokevirtual idx, 3)) (hc : am_CV mi.1 idx mi') (hB : am_CB mi' n) (hs : am_sh k = .inl (ci, N, f)) (hci : (vwCl[ci]?).map (fun q => q.1) = some mi'.1) (hk : k < 9000) (hn : as.length = n) (hst : sk = as.reverse ++ .inr (.inr (k, o, i)) :: st) (hw : (st.map am_cat).sum ≤ 8) (hM : am_Met K d mi' (.inr (.inr (k, o, i)) :: as) M (fun q N => q = some (.inr (.inl r)) ∧ N = M1)) (kk : gv F mi K cells slots (pc + 3) ls (.inr (.inl r) :: st) M1) : gv F mi K cells slots pc ls sk M :=
  gv_callV hold hR hd hc hB hs hci hk hn hst hw hM (fun q N hq => by obtain ⟨rfl, rfl⟩ := hq; exact kk)
theorem gv_callVv (d : Nat) {idx n ci N : Nat} {k o i : Nat} {f : Nat → am_F} {as sk : List am_V} {mi' : am_Mi} {M1 : am_M} (hold : gv_old F K) (hR : d + 1 ≤ F.2.2.1.frames ∧ 60 * (d + 1) ≤ F.2.2.1.locals ∧ cells ≤ F.2.2.1.cells ∧ slots ≤ F.2.2.1.slots) (hd : decode mi.2.2.1 pc = .ok (.invokevirtual idx, 3)) (hc : am_CV mi.1 idx mi') (hB : am_CB mi' n) (hs : am_sh k = .inl (ci, N, f)) (hci : (vwCl[ci]?).map (fun q => q.1) = some mi'.1) (hk : k < 9000) (hn : as.length = n) (hst : sk = as.reverse ++ .inr (.inr (k, o, i)) :: st) (hw : (st.map am_cat).sum ≤ 8) (hM : am_Met K d mi' (.inr (.inr (k, o, i)) :: as) M (fun q N => q = none ∧ N = M1)) (kk : gv F mi K cells slots (pc + 3) ls (st) M1) : gv F mi K cells slots pc ls sk M :=
  gv_callV hold hR hd hc hB hs hci hk hn hst hw hM (fun q N hq => by obtain ⟨rfl, rfl⟩ := hq; exact kk)
theorem gv_callSi (d : Nat) {idx n : Nat} {as sk : List am_V} {mi' : am_Mi} {r : Int32} {M1 : am_M} (hold : gv_old F K) (hR : d + 1 ≤ F.2.2.1.frames ∧ 60 * (d + 1) ≤ F.2.2.1.locals ∧ cells ≤ F.2.2.1.cells ∧ slots ≤ F.2.2.1.slots) (hd : decode mi.2.2.1 pc = .ok (.invokestatic idx, 3)) (hc : am_CS mi.1 idx mi') (hB : am_CB mi' n) (hn : as.length = n) (hst : sk = as.reverse ++ st) (hw : (st.map am_cat).sum ≤ 8) (hM : am_Met K d mi' (as) M (fun q N => q = some (.inl r) ∧ N = M1)) (kk : gv F mi K cells slots (pc + 3) ls (.inl r :: st) M1) : gv F mi K cells slots pc ls sk M :=
  gv_callS hold hR hd hc hB hn hst hw hM (fun q N hq => by obtain ⟨rfl, rfl⟩ := hq; exact kk)
theorem gv_callSl (d : Nat) {idx n : Nat} {as sk : List am_V} {mi' : am_Mi} {r : Int64} {M1 : am_M} (hold : gv_old F K) (hR : d + 1 ≤ F.2.2.1.frames ∧ 60 * (d + 1) ≤ F.2.2.1.locals ∧ cells ≤ F.2.2.1.cells ∧ slots ≤ F.2.2.1.slots) (hd : decode mi.2.2.1 pc = .ok (.invokestatic idx, 3)) (hc : am_CS mi.1 idx mi') (hB : am_CB mi' n) (hn : as.length = n) (hst : sk = as.reverse ++ st) (hw : (st.map am_cat).sum ≤ 8) (hM : am_Met K d mi' (as) M (fun q N => q = some (.inr (.inl r)) ∧ N = M1)) (kk : gv F mi K cells slots (pc + 3) ls (.inr (.inl r) :: st) M1) : gv F mi K cells slots pc ls sk M :=
  gv_callS hold hR hd hc hB hn hst hw hM (fun q N hq => by obtain ⟨rfl, rfl⟩ := hq; exact kk)
theorem gv_callSv (d : Nat) {idx n : Nat} {as sk : List am_V} {mi' : am_Mi} {M1 : am_M} (hold : gv_old F K) (hR : d + 1 ≤ F.2.2.1.frames ∧ 60 * (d + 1) ≤ F.2.2.1.locals ∧ cells ≤ F.2.2.1.cells ∧ slots ≤ F.2.2.1.slots) (hd : decode mi.2.2.1 pc = .ok (.invokestatic idx, 3)) (hc : am_CS mi.1 idx mi') (hB : am_CB mi' n) (hn : as.length = n) (hst : sk = as.reverse ++ st) (hw : (st.map am_cat).sum ≤ 8) (hM : am_Met K d mi' (as) M (fun q N => q = none ∧ N = M1)) (kk : gv F mi K cells slots (pc + 3) ls (st) M1) : gv F mi K cells slots pc ls sk M :=
  gv_callS hold hR hd hc hB hn hst hw hM (fun q N hq => by obtain ⟨rfl, rfl⟩ := hq; exact kk)
end GVR
