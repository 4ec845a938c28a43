theorem am_tl {α : Type} {P : α → Prop} {a : α} {l : List α} (h : ∀ v ∈ a :: l, P v) : ∀ v ∈ l, P v := fun v hv => h v (List.mem_cons_of_mem _ hv)
theorem am_hd {α : Type} {P : α → Prop} {a : α} {l : List α} (h : ∀ v ∈ a :: l, P v) : P a := h a List.mem_cons_self
theorem am_cs {α : Type} {P : α → Prop} {a : α} {l : List α} (h : P a) (t : ∀ v ∈ l, P v) : ∀ v ∈ a :: l, P v := fun v hv => (List.mem_cons.mp hv).elim (fun e => e ▸ h) (t v)
def am_get (i : Nat) : List (Nat × am_V) → Option am_V
  | [] => none
  | q :: l => cond (Nat.beq q.1 i) (some q.2) (am_get i l)
theorem am_get_in {i : Nat} {v : am_V} : ∀ {ls : List (Nat × am_V)}, am_get i ls = some v → (i, v) ∈ ls
  | [], h => by cases h
  | q :: l, h => by
    unfold am_get at h
    cases hb : Nat.beq q.1 i with
    | true =>
      rw [hb] at h
      have e : q.1 = i := Nat.eq_of_beq_eq_true hb
      cases h
      rw [← e]
      exact List.mem_cons_self
    | false =>
      rw [hb] at h
      exact List.mem_cons_of_mem _ (am_get_in h)
theorem am_la {K : am_K} {la : Array Slot} {n i : Nat} {ls : List (Nat × am_V)} {v : am_V} (hl : lv_has la n (am_ls K ls)) (h : am_get i ls = some v) : la[i]? = some (.val (am_v K v)) :=
  hl.2.2 (i, am_v K v) (List.mem_map.mpr ⟨(i, v), am_get_in h, rfl⟩)
def am_ins (x : Nat × am_V) : List (Nat × am_V) → List (Nat × am_V)
  | [] => [x]
  | q :: l => cond (Nat.blt q.1 x.1) (q :: am_ins x l) (x :: q :: l)
theorem am_ins_in {x q : Nat × am_V} : ∀ {l : List (Nat × am_V)}, q ∈ am_ins x l → q = x ∨ q ∈ l
  | [], h => Or.inl (List.mem_singleton.mp h)
  | r :: l, h => by
    unfold am_ins at h
    cases hb : Nat.blt r.1 x.1 with
    | true =>
      rw [hb] at h
      rcases List.mem_cons.mp h with e | e
      · exact Or.inr (e ▸ List.mem_cons_self)
      · exact (am_ins_in e).elim Or.inl (fun z => Or.inr (List.mem_cons_of_mem _ z))
    | false =>
      rw [hb] at h
      exact List.mem_cons.mp h
def am_keep (i : Nat) (v : am_V) (q : Nat × am_V) : Bool := !(Nat.beq q.1 i) && (!(Nat.beq (q.1 + 1) i && Nat.beq (am_cat q.2) 2) && !(Nat.beq (am_cat v) 2 && Nat.beq q.1 (i + 1)))
def am_flt (i : Nat) (v : am_V) : List (Nat × am_V) → List (Nat × am_V)
  | [] => []
  | q :: l => cond (am_keep i v q) (q :: am_flt i v l) (am_flt i v l)
theorem am_flt_in {i : Nat} {v : am_V} {q : Nat × am_V} : ∀ {l : List (Nat × am_V)}, q ∈ am_flt i v l → q ∈ l ∧ am_keep i v q = true
  | [], h => absurd h List.not_mem_nil
  | r :: l, h => by
    unfold am_flt at h
    cases hb : am_keep i v r with
    | true =>
      rw [hb] at h
      rcases List.mem_cons.mp h with e | e
      · exact ⟨e ▸ List.mem_cons_self, e ▸ hb⟩
      · exact ⟨List.mem_cons_of_mem _ (am_flt_in e).1, (am_flt_in e).2⟩
    | false =>
      rw [hb] at h
      exact ⟨List.mem_cons_of_mem _ (am_flt_in h).1, (am_flt_in h).2⟩
def am_put (i : Nat) (v : am_V) (ls : List (Nat × am_V)) : List (Nat × am_V) := am_ins (i, v) (am_flt i v ls)
theorem am_beqF {a b : Nat} (h : Nat.beq a b = false) : ¬ a = b := fun e => by rw [e, Nat.beq_refl] at h; cases h
theorem am_put_1 {K : am_K} {i : Nat} {v : am_V} {ls : List (Nat × am_V)} {q : Nat × Value} (h : q ∈ am_ls K (am_put i v ls)) : q ∈ (i, am_v K v) :: (am_ls K ls).filter (fun q => !(q.1 == i) && !(q.1 + 1 == i && q.2.category == 2)) := by
  obtain ⟨r, hr, rfl⟩ := List.mem_map.mp h
  rcases am_ins_in hr with e | e
  · subst e
    exact List.mem_cons_self
  · obtain ⟨h1, h2⟩ := am_flt_in e
    refine List.mem_cons_of_mem _ (List.mem_filter.mpr ⟨List.mem_map.mpr ⟨r, h1, rfl⟩, ?_⟩)
    unfold am_keep at h2
    simp only [Bool.and_eq_true, Bool.not_eq_true', Bool.and_eq_false_iff] at h2
    obtain ⟨a1, a2, -⟩ := h2
    have b1 := am_beqF a1
    simp only [Bool.and_eq_true, Bool.not_eq_true', Bool.and_eq_false_iff, beq_eq_false_iff_ne, ne_eq, am_cat_v]
    exact ⟨b1, a2.elim (fun z => Or.inl (am_beqF z)) (fun z => Or.inr (am_beqF z))⟩
theorem am_put_2 {K : am_K} {i : Nat} {v : am_V} (hv : am_cat v = 2) {ls : List (Nat × am_V)} {q : Nat × Value} (h : q ∈ am_ls K (am_put i v ls)) : q ∈ (i, am_v K v) :: (am_ls K ls).filter (fun q => !(q.1 == i) && (!(q.1 == i + 1) && !(q.1 + 1 == i && q.2.category == 2))) := by
  obtain ⟨r, hr, rfl⟩ := List.mem_map.mp h
  rcases am_ins_in hr with e | e
  · subst e
    exact List.mem_cons_self
  · obtain ⟨h1, h2⟩ := am_flt_in e
    refine List.mem_cons_of_mem _ (List.mem_filter.mpr ⟨List.mem_map.mpr ⟨r, h1, rfl⟩, ?_⟩)
    unfold am_keep at h2
    rw [hv] at h2
    simp only [Bool.and_eq_true, Bool.not_eq_true', Bool.and_eq_false_iff] at h2
    obtain ⟨a1, a2, a3⟩ := h2
    have b1 := am_beqF a1
    have b3 : ¬ r.1 = i + 1 := a3.elim (fun z => by cases z) am_beqF
    simp only [Bool.and_eq_true, Bool.not_eq_true', Bool.and_eq_false_iff, beq_eq_false_iff_ne, ne_eq, am_cat_v]
    exact ⟨b1, b3, a2.elim (fun z => Or.inl (am_beqF z)) (fun z => Or.inr (am_beqF z))⟩
theorem am_put_k {K : am_K} {i : Nat} {v : am_V} {ls : List (Nat × am_V)} (hv : am_vk K v) (h : ∀ q ∈ ls, am_vk K q.2) : ∀ q ∈ am_put i v ls, am_vk K q.2 := fun q hq => (am_ins_in hq).elim (fun e => by rw [e]; exact hv) (fun z => h q (am_flt_in z).1)
theorem lv_has.less {la : Array Slot} {n : Nat} {l l' : List (Nat × Value)} (h : lv_has la n l) (hs : ∀ q ∈ l', q ∈ l) : lv_has la n l' := ⟨h.1, h.2.1, fun q hq => h.2.2 q (hs q hq)⟩
section AMR
variable {K : am_K} {d : Nat} {mi : am_Mi} {pc : Nat} {ls : List (Nat × am_V)} {st : List am_V} {M : am_M} {post : Option am_V → am_M → Prop}
/-- fewer locals -/
theorem am_less {ls' : List (Nat × am_V)} (h : ∀ q ∈ ls', q ∈ ls) (k : am_W K d mi pc ls' st M post) : am_W K d mi pc ls st M post := by
  intro p e s m args below meth c H locs la hK hI hP hS hl hlk hsk
  refine k p e s m args below meth c H locs la hK hI hP hS (hl.less fun q hq => ?_) (fun q hq => hlk q (h q hq)) hsk
  obtain ⟨r, hr, rfl⟩ := List.mem_map.mp hq
  exact List.mem_map.mpr ⟨r, h r hr, rfl⟩
/-- a weaker end -/
theorem am_weak {post' : Option am_V → am_M → Prop} (h : ∀ r M', post' r M' → post r M') (k : am_W K d mi pc ls st M post') : am_W K d mi pc ls st M post := by
  intro p e s m args below meth c H locs la hK hI hP hS hl hlk hsk T hT X
  obtain ⟨t, h1, o, h2, h3, ⟨⟨r, M', e1, e2, e3, e4⟩, h5⟩, h6⟩ := k p e s m args below meth c H locs la hK hI hP hS hl hlk hsk T hT X
  exact ⟨t, h1, o, h2, h3, ⟨⟨r, M', e1, h r M' e2, e3, e4⟩, h5⟩, h6⟩
theorem am_iadd {y x : Int32} (hd : decode mi.2.2.1 pc = .ok (.iadd, 1)) (k : am_W K d mi (pc + 1) ls (.inl (x + y) :: st) M post) : am_W K d mi pc ls (.inl y :: .inl x :: st) M post := by
  intro p e s m args below meth c H locs la hK hI hP hS hl hlk hsk
  exact lv_iadd hI.1 hI.2.1 hd (k p e s m args below meth c H locs la hK hI hP hS hl hlk (am_cs trivial (am_tl (am_tl hsk))))
theorem am_isub {y x : Int32} (hd : decode mi.2.2.1 pc = .ok (.isub, 1)) (k : am_W K d mi (pc + 1) ls (.inl (x - y) :: st) M post) : am_W K d mi pc ls (.inl y :: .inl x :: st) M post := by
  intro p e s m args below meth c H locs la hK hI hP hS hl hlk hsk
  exact lv_isub hI.1 hI.2.1 hd (k p e s m args below meth c H locs la hK hI hP hS hl hlk (am_cs trivial (am_tl (am_tl hsk))))
theorem am_imul {y x : Int32} (hd : decode mi.2.2.1 pc = .ok (.imul, 1)) (k : am_W K d mi (pc + 1) ls (.inl (x * y) :: st) M post) : am_W K d mi pc ls (.inl y :: .inl x :: st) M post := by
  intro p e s m args below meth c H locs la hK hI hP hS hl hlk hsk
  exact lv_imul hI.1 hI.2.1 hd (k p e s m args below meth c H locs la hK hI hP hS hl hlk (am_cs trivial (am_tl (am_tl hsk))))
theorem am_iand {y x : Int32} (hd : decode mi.2.2.1 pc = .ok (.iand, 1)) (k : am_W K d mi (pc + 1) ls (.inl (x &&& y) :: st) M post) : am_W K d mi pc ls (.inl y :: .inl x :: st) M post := by
  intro p e s m args below meth c H locs la hK hI hP hS hl hlk hsk
  exact lv_iand hI.1 hI.2.1 hd (k p e s m args below meth c H locs la hK hI hP hS hl hlk (am_cs trivial (am_tl (am_tl hsk))))
theorem am_ior {y x : Int32} (hd : decode mi.2.2.1 pc = .ok (.ior, 1)) (k : am_W K d mi (pc + 1) ls (.inl (x ||| y) :: st) M post) : am_W K d mi pc ls (.inl y :: .inl x :: st) M post := by
  intro p e s m args below meth c H locs la hK hI hP hS hl hlk hsk
  exact lv_ior hI.1 hI.2.1 hd (k p e s m args below meth c H locs la hK hI hP hS hl hlk (am_cs trivial (am_tl (am_tl hsk))))
theorem am_ixor {y x : Int32} (hd : decode mi.2.2.1 pc = .ok (.ixor, 1)) (k : am_W K d mi (pc + 1) ls (.inl (x ^^^ y) :: st) M post) : am_W K d mi pc ls (.inl y :: .inl x :: st) M post := by
  intro p e s m args below meth c H locs la hK hI hP hS hl hlk hsk
  exact lv_ixor hI.1 hI.2.1 hd (k p e s m args below meth c H locs la hK hI hP hS hl hlk (am_cs trivial (am_tl (am_tl hsk))))
theorem am_ishl {y x : Int32} (hd : decode mi.2.2.1 pc = .ok (.ishl, 1)) (k : am_W K d mi (pc + 1) ls (.inl (x <<< (y &&& 31)) :: st) M post) : am_W K d mi pc ls (.inl y :: .inl x :: st) M post := by
  intro p e s m args below meth c H locs la hK hI hP hS hl hlk hsk
  exact lv_ishl hI.1 hI.2.1 hd (k p e s m args below meth c H locs la hK hI hP hS hl hlk (am_cs trivial (am_tl (am_tl hsk))))
theorem am_ishr {y x : Int32} (hd : decode mi.2.2.1 pc = .ok (.ishr, 1)) (k : am_W K d mi (pc + 1) ls (.inl (x >>> (y &&& 31)) :: st) M post) : am_W K d mi pc ls (.inl y :: .inl x :: st) M post := by
  intro p e s m args below meth c H locs la hK hI hP hS hl hlk hsk
  exact lv_ishr hI.1 hI.2.1 hd (k p e s m args below meth c H locs la hK hI hP hS hl hlk (am_cs trivial (am_tl (am_tl hsk))))
theorem am_idiv {y x : Int32} (hd : decode mi.2.2.1 pc = .ok (.idiv, 1)) (hne : ¬ y = 0) (k : am_W K d mi (pc + 1) ls (.inl (x / y) :: st) M post) : am_W K d mi pc ls (.inl y :: .inl x :: st) M post := by
  intro p e s m args below meth c H locs la hK hI hP hS hl hlk hsk
  exact lv_idiv hI.1 hI.2.1 hd hne (k p e s m args below meth c H locs la hK hI hP hS hl hlk (am_cs trivial (am_tl (am_tl hsk))))
theorem am_irem {y x : Int32} (hd : decode mi.2.2.1 pc = .ok (.irem, 1)) (hne : ¬ y = 0) (k : am_W K d mi (pc + 1) ls (.inl (x - x / y * y) :: st) M post) : am_W K d mi pc ls (.inl y :: .inl x :: st) M post := by
  intro p e s m args below meth c H locs la hK hI hP hS hl hlk hsk
  exact lv_irem hI.1 hI.2.1 hd hne (k p e s m args below meth c H locs la hK hI hP hS hl hlk (am_cs trivial (am_tl (am_tl hsk))))
theorem am_iushr {y x : Int32} (hd : decode mi.2.2.1 pc = .ok (.iushr, 1)) (k : am_W K d mi (pc + 1) ls (.inl ((x.toUInt32 >>> (y.toUInt32 &&& Int32.toUInt32 31)).toInt32) :: st) M post) : am_W K d mi pc ls (.inl y :: .inl x :: st) M post := by
  intro p e s m args below meth c H locs la hK hI hP hS hl hlk hsk
  exact lv_iushr hI.1 hI.2.1 hd rfl (k p e s m args below meth c H locs la hK hI hP hS hl hlk (am_cs trivial (am_tl (am_tl hsk))))
theorem am_ineg {x : Int32} (hd : decode mi.2.2.1 pc = .ok (.ineg, 1)) (k : am_W K d mi (pc + 1) ls (.inl (-x) :: st) M post) : am_W K d mi pc ls (.inl x :: st) M post := by
  intro p e s m args below meth c H locs la hK hI hP hS hl hlk hsk
  exact lv_ineg hI.1 hI.2.1 hd (k p e s m args below meth c H locs la hK hI hP hS hl hlk (am_cs trivial (am_tl hsk)))
theorem am_ladd {y x : Int64} (hd : decode mi.2.2.1 pc = .ok (.ladd, 1)) (k : am_W K d mi (pc + 1) ls (.inr (.inl (x + y)) :: st) M post) : am_W K d mi pc ls (.inr (.inl y) :: .inr (.inl x) :: st) M post := by
  intro p e s m args below meth c H locs la hK hI hP hS hl hlk hsk
  exact lv_ladd hI.1 hI.2.1 hd (k p e s m args below meth c H locs la hK hI hP hS hl hlk (am_cs trivial (am_tl (am_tl hsk))))
theorem am_lsub {y x : Int64} (hd : decode mi.2.2.1 pc = .ok (.lsub, 1)) (k : am_W K d mi (pc + 1) ls (.inr (.inl (x - y)) :: st) M post) : am_W K d mi pc ls (.inr (.inl y) :: .inr (.inl x) :: st) M post := by
  intro p e s m args below meth c H locs la hK hI hP hS hl hlk hsk
  exact lv_lsub hI.1 hI.2.1 hd (k p e s m args below meth c H locs la hK hI hP hS hl hlk (am_cs trivial (am_tl (am_tl hsk))))
theorem am_lmul {y x : Int64} (hd : decode mi.2.2.1 pc = .ok (.lmul, 1)) (k : am_W K d mi (pc + 1) ls (.inr (.inl (x * y)) :: st) M post) : am_W K d mi pc ls (.inr (.inl y) :: .inr (.inl x) :: st) M post := by
  intro p e s m args below meth c H locs la hK hI hP hS hl hlk hsk
  exact lv_lmul hI.1 hI.2.1 hd (k p e s m args below meth c H locs la hK hI hP hS hl hlk (am_cs trivial (am_tl (am_tl hsk))))
theorem am_land {y x : Int64} (hd : decode mi.2.2.1 pc = .ok (.land, 1)) (k : am_W K d mi (pc + 1) ls (.inr (.inl (x &&& y)) :: st) M post) : am_W K d mi pc ls (.inr (.inl y) :: .inr (.inl x) :: st) M post := by
  intro p e s m args below meth c H locs la hK hI hP hS hl hlk hsk
  exact lv_land hI.1 hI.2.1 hd (k p e s m args below meth c H locs la hK hI hP hS hl hlk (am_cs trivial (am_tl (am_tl hsk))))
theorem am_lor {y x : Int64} (hd : decode mi.2.2.1 pc = .ok (.lor, 1)) (k : am_W K d mi (pc + 1) ls (.inr (.inl (x ||| y)) :: st) M post) : am_W K d mi pc ls (.inr (.inl y) :: .inr (.inl x) :: st) M post := by
  intro p e s m args below meth c H locs la hK hI hP hS hl hlk hsk
  exact lv_lor hI.1 hI.2.1 hd (k p e s m args below meth c H locs la hK hI hP hS hl hlk (am_cs trivial (am_tl (am_tl hsk))))
theorem am_ldiv {y x : Int64} (hd : decode mi.2.2.1 pc = .ok (.ldiv, 1)) (hne : ¬ y = 0) (k : am_W K d mi (pc + 1) ls (.inr (.inl (x / y)) :: st) M post) : am_W K d mi pc ls (.inr (.inl y) :: .inr (.inl x) :: st) M post := by
  intro p e s m args below meth c H locs la hK hI hP hS hl hlk hsk
  exact lv_ldiv hI.1 hI.2.1 hd hne (k p e s m args below meth c H locs la hK hI hP hS hl hlk (am_cs trivial (am_tl (am_tl hsk))))
theorem am_lshl {y : Int32} {x : Int64} (hd : decode mi.2.2.1 pc = .ok (.lshl, 1)) (k : am_W K d mi (pc + 1) ls (.inr (.inl (x <<< (y.toInt64 &&& 63))) :: st) M post) : am_W K d mi pc ls (.inl y :: .inr (.inl x) :: st) M post := by
  intro p e s m args below meth c H locs la hK hI hP hS hl hlk hsk
  exact lv_lshl hI.1 hI.2.1 hd rfl (k p e s m args below meth c H locs la hK hI hP hS hl hlk (am_cs trivial (am_tl (am_tl hsk))))
theorem am_i2l {x : Int32} (hd : decode mi.2.2.1 pc = .ok (.i2l, 1)) (k : am_W K d mi (pc + 1) ls (.inr (.inl x.toInt64) :: st) M post) : am_W K d mi pc ls (.inl x :: st) M post := by
  intro p e s m args below meth c H locs la hK hI hP hS hl hlk hsk
  exact lv_i2l hI.1 hI.2.1 hd rfl (k p e s m args below meth c H locs la hK hI hP hS hl hlk (am_cs trivial (am_tl hsk)))
theorem am_l2i {x : Int64} (hd : decode mi.2.2.1 pc = .ok (.l2i, 1)) (k : am_W K d mi (pc + 1) ls (.inl x.toInt32 :: st) M post) : am_W K d mi pc ls (.inr (.inl x) :: st) M post := by
  intro p e s m args below meth c H locs la hK hI hP hS hl hlk hsk
  exact lv_l2i hI.1 hI.2.1 hd rfl (k p e s m args below meth c H locs la hK hI hP hS hl hlk (am_cs trivial (am_tl hsk)))
theorem am_i2b {x : Int32} (hd : decode mi.2.2.1 pc = .ok (.i2b, 1)) (k : am_W K d mi (pc + 1) ls (.inl x.toInt8.toInt32 :: st) M post) : am_W K d mi pc ls (.inl x :: st) M post := by
  intro p e s m args below meth c H locs la hK hI hP hS hl hlk hsk
  exact lv_i2b hI.1 hI.2.1 hd rfl (k p e s m args below meth c H locs la hK hI hP hS hl hlk (am_cs trivial (am_tl hsk)))
theorem am_i2s {x : Int32} (hd : decode mi.2.2.1 pc = .ok (.i2s, 1)) (k : am_W K d mi (pc + 1) ls (.inl x.toInt16.toInt32 :: st) M post) : am_W K d mi pc ls (.inl x :: st) M post := by
  intro p e s m args below meth c H locs la hK hI hP hS hl hlk hsk
  exact lv_i2s hI.1 hI.2.1 hd rfl (k p e s m args below meth c H locs la hK hI hP hS hl hlk (am_cs trivial (am_tl hsk)))
theorem am_i2c {x : Int32} (hd : decode mi.2.2.1 pc = .ok (.i2c, 1)) (k : am_W K d mi (pc + 1) ls (.inl (x.toUInt32 % 65536).toInt32 :: st) M post) : am_W K d mi pc ls (.inl x :: st) M post := by
  intro p e s m args below meth c H locs la hK hI hP hS hl hlk hsk
  exact lv_i2c hI.1 hI.2.1 hd rfl (k p e s m args below meth c H locs la hK hI hP hS hl hlk (am_cs trivial (am_tl hsk)))
theorem am_lcmp {y x : Int64} (hd : decode mi.2.2.1 pc = .ok (.lcmp, 1)) (k : am_W K d mi (pc + 1) ls (.inl (lg_cmp x y) :: st) M post) : am_W K d mi pc ls (.inr (.inl y) :: .inr (.inl x) :: st) M post := by
  intro p e s m args below meth c H locs la hK hI hP hS hl hlk hsk
  exact W.lcmp hI.1 hI.2.1 hd (k p e s m args below meth c H locs la hK hI hP hS hl hlk (am_cs trivial (am_tl (am_tl hsk))))
theorem am_iconst {n : Int} {v : Int32} (hd : decode mi.2.2.1 pc = .ok (.iconst n, 1)) (hv : Int32.ofInt n = v) (k : am_W K d mi (pc + 1) ls (.inl v :: st) M post) : am_W K d mi pc ls (st) M post := by
  intro p e s m args below meth c H locs la hK hI hP hS hl hlk hsk
  exact lv_iconst hI.1 hI.2.1 hd hv (k p e s m args below meth c H locs la hK hI hP hS hl hlk (am_cs trivial hsk))
theorem am_bipush {n : Int} {v : Int32} (hd : decode mi.2.2.1 pc = .ok (.bipush n, 2)) (hv : (Int8.ofInt n).toInt32 = v) (k : am_W K d mi (pc + 2) ls (.inl v :: st) M post) : am_W K d mi pc ls (st) M post := by
  intro p e s m args below meth c H locs la hK hI hP hS hl hlk hsk
  exact lv_bipush hI.1 hI.2.1 hd hv (k p e s m args below meth c H locs la hK hI hP hS hl hlk (am_cs trivial hsk))
theorem am_sipush {n : Int} {v : Int32} (hd : decode mi.2.2.1 pc = .ok (.sipush n, 3)) (hv : (Int16.ofInt n).toInt32 = v) (k : am_W K d mi (pc + 3) ls (.inl v :: st) M post) : am_W K d mi pc ls (st) M post := by
  intro p e s m args below meth c H locs la hK hI hP hS hl hlk hsk
  exact lv_sipush hI.1 hI.2.1 hd hv (k p e s m args below meth c H locs la hK hI hP hS hl hlk (am_cs trivial hsk))
theorem am_lconst {n : Fin 2} {v : Int64} (hd : decode mi.2.2.1 pc = .ok (.lconst n, 1)) (hv : Int64.ofNat (n : Nat) = v) (k : am_W K d mi (pc + 1) ls (.inr (.inl v) :: st) M post) : am_W K d mi pc ls (st) M post := by
  intro p e s m args below meth c H locs la hK hI hP hS hl hlk hsk
  exact lv_lconst hI.1 hI.2.1 hd hv (k p e s m args below meth c H locs la hK hI hP hS hl hlk (am_cs trivial hsk))
theorem am_ldc {idx : Nat} {v : Int32} (hd : decode mi.2.2.1 pc = .ok (.ldc idx, 2)) (hc : Cond.constant mi.1 idx v ∈ am_T) (k : am_W K d mi (pc + 2) ls (.inl v :: st) M post) : am_W K d mi pc ls st M post := by
  intro p e s m args below meth c H locs la hK hI hP hS hl hlk hsk
  exact lv_ldc hI.1 hI.2.1 hI.2.2.2.2.1 (hI.2.2.2.2.2.1 _ hc) hd (k p e s m args below meth c H locs la hK hI hP hS hl hlk (am_cs trivial hsk))
theorem am_ldcw {idx : Nat} {v : Int32} (hd : decode mi.2.2.1 pc = .ok (.ldc_w idx, 3)) (hc : Cond.constant mi.1 idx v ∈ am_T) (k : am_W K d mi (pc + 3) ls (.inl v :: st) M post) : am_W K d mi pc ls st M post := by
  intro p e s m args below meth c H locs la hK hI hP hS hl hlk hsk
  exact lv_ldcw hI.1 hI.2.1 hI.2.2.2.2.1 (hI.2.2.2.2.2.1 _ hc) hd (k p e s m args below meth c H locs la hK hI hP hS hl hlk (am_cs trivial hsk))
theorem am_ldc2 {idx : Nat} {v : Int64} (hd : decode mi.2.2.1 pc = .ok (.ldc2_w idx, 3)) (hc : Cond.constantLong mi.1 idx v ∈ am_T) (k : am_W K d mi (pc + 3) ls (.inr (.inl v) :: st) M post) : am_W K d mi pc ls st M post := by
  intro p e s m args below meth c H locs la hK hI hP hS hl hlk hsk
  exact lv_ldc2 hI.1 hI.2.1 hI.2.2.2.2.1 (hI.2.2.2.2.2.1 _ hc) hd (k p e s m args below meth c H locs la hK hI hP hS hl hlk (am_cs trivial hsk))
theorem am_iload_n {i : Fin 4} {x : Int32} (hd : decode mi.2.2.1 pc = .ok (.iload_n i, 1)) (hg : am_get i ls = some (.inl x)) (k : am_W K d mi (pc + 1) ls (.inl x :: st) M post) : am_W K d mi pc ls st M post := by
  intro p e s m args below meth c H locs la hK hI hP hS hl hlk hsk
  exact lv_iload_n hI.1 hI.2.1 hd rfl (am_la hl hg) (k p e s m args below meth c H locs la hK hI hP hS hl hlk (am_cs trivial hsk))
theorem am_iload {i : Nat} {x : Int32} (hd : decode mi.2.2.1 pc = .ok (.iload i, 2)) (hg : am_get i ls = some (.inl x)) (k : am_W K d mi (pc + 2) ls (.inl x :: st) M post) : am_W K d mi pc ls st M post := by
  intro p e s m args below meth c H locs la hK hI hP hS hl hlk hsk
  exact lv_iload hI.1 hI.2.1 hd (am_la hl hg) (k p e s m args below meth c H locs la hK hI hP hS hl hlk (am_cs trivial hsk))
theorem am_lload_n {i : Fin 4} {x : Int64} (hd : decode mi.2.2.1 pc = .ok (.lload_n i, 1)) (hg : am_get i ls = some (.inr (.inl x))) (k : am_W K d mi (pc + 1) ls (.inr (.inl x) :: st) M post) : am_W K d mi pc ls st M post := by
  intro p e s m args below meth c H locs la hK hI hP hS hl hlk hsk
  exact lv_lload_n hI.1 hI.2.1 hd rfl (am_la hl hg) (k p e s m args below meth c H locs la hK hI hP hS hl hlk (am_cs trivial hsk))
theorem am_lload {i : Nat} {x : Int64} (hd : decode mi.2.2.1 pc = .ok (.lload i, 2)) (hg : am_get i ls = some (.inr (.inl x))) (k : am_W K d mi (pc + 2) ls (.inr (.inl x) :: st) M post) : am_W K d mi pc ls st M post := by
  intro p e s m args below meth c H locs la hK hI hP hS hl hlk hsk
  exact lv_lload hI.1 hI.2.1 hd (am_la hl hg) (k p e s m args below meth c H locs la hK hI hP hS hl hlk (am_cs trivial hsk))
theorem am_aload_n {i : Fin 4} {x : am_L} (hd : decode mi.2.2.1 pc = .ok (.aload_n i, 1)) (hg : am_get i ls = some (.inr (.inr x))) (k : am_W K d mi (pc + 1) ls (.inr (.inr x) :: st) M post) : am_W K d mi pc ls st M post := by
  intro p e s m args below meth c H locs la hK hI hP hS hl hlk hsk
  exact lv_aload_n hI.1 hI.2.1 hd rfl (am_la hl hg) (k p e s m args below meth c H locs la hK hI hP hS hl hlk (am_cs (hlk _ (am_get_in hg)) hsk))
theorem am_aload {i : Nat} {x : am_L} (hd : decode mi.2.2.1 pc = .ok (.aload i, 2)) (hg : am_get i ls = some (.inr (.inr x))) (k : am_W K d mi (pc + 2) ls (.inr (.inr x) :: st) M post) : am_W K d mi pc ls st M post := by
  intro p e s m args below meth c H locs la hK hI hP hS hl hlk hsk
  exact lv_aload hI.1 hI.2.1 hd (am_la hl hg) (k p e s m args below meth c H locs la hK hI hP hS hl hlk (am_cs (hlk _ (am_get_in hg)) hsk))
theorem am_istore_n {i : Fin 4} {x : Int32} {ls' : List (Nat × am_V)} (hd : decode mi.2.2.1 pc = .ok (.istore_n i, 1)) (hn : (i : Nat) < mi.2.2.2.1) (hp : am_put (i : Nat) (.inl x) ls = ls') (k : am_W K d mi (pc + 1) ls' st M post) : am_W K d mi pc ls (.inl x :: st) M post := by
  intro p e s m args below meth c H locs la hK hI hP hS hl hlk hsk
  refine lv_istore_n hI.1 hI.2.1 hd rfl hl hn rfl (fun la' hla => ?_)
  subst hp
  exact k p e s m args below meth c H locs la' hK hI hP hS (hla.less fun q hq => am_put_1 hq) (am_put_k (am_hd hsk) hlk) (am_tl hsk)
theorem am_istore {i : Nat} {x : Int32} {ls' : List (Nat × am_V)} (hd : decode mi.2.2.1 pc = .ok (.istore i, 2)) (hn : i < mi.2.2.2.1) (hp : am_put i (.inl x) ls = ls') (k : am_W K d mi (pc + 2) ls' st M post) : am_W K d mi pc ls (.inl x :: st) M post := by
  intro p e s m args below meth c H locs la hK hI hP hS hl hlk hsk
  refine lv_istore hI.1 hI.2.1 hd hl hn rfl (fun la' hla => ?_)
  subst hp
  exact k p e s m args below meth c H locs la' hK hI hP hS (hla.less fun q hq => am_put_1 hq) (am_put_k (am_hd hsk) hlk) (am_tl hsk)
theorem am_lstore_n {i : Fin 4} {x : Int64} {ls' : List (Nat × am_V)} (hd : decode mi.2.2.1 pc = .ok (.lstore_n i, 1)) (hn : (i : Nat) + 1 < mi.2.2.2.1) (hp : am_put (i : Nat) (.inr (.inl x)) ls = ls') (k : am_W K d mi (pc + 1) ls' st M post) : am_W K d mi pc ls (.inr (.inl x) :: st) M post := by
  intro p e s m args below meth c H locs la hK hI hP hS hl hlk hsk
  refine lv_lstore_n hI.1 hI.2.1 hd rfl hl hn rfl (fun la' hla => ?_)
  subst hp
  exact k p e s m args below meth c H locs la' hK hI hP hS (hla.less fun q hq => am_put_2 rfl hq) (am_put_k (am_hd hsk) hlk) (am_tl hsk)
theorem am_lstore {i : Nat} {x : Int64} {ls' : List (Nat × am_V)} (hd : decode mi.2.2.1 pc = .ok (.lstore i, 2)) (hn : i + 1 < mi.2.2.2.1) (hp : am_put i (.inr (.inl x)) ls = ls') (k : am_W K d mi (pc + 2) ls' st M post) : am_W K d mi pc ls (.inr (.inl x) :: st) M post := by
  intro p e s m args below meth c H locs la hK hI hP hS hl hlk hsk
  refine lv_lstore hI.1 hI.2.1 hd hl hn rfl (fun la' hla => ?_)
  subst hp
  exact k p e s m args below meth c H locs la' hK hI hP hS (hla.less fun q hq => am_put_2 rfl hq) (am_put_k (am_hd hsk) hlk) (am_tl hsk)
theorem am_astore_n {i : Fin 4} {x : am_L} {ls' : List (Nat × am_V)} (hd : decode mi.2.2.1 pc = .ok (.astore_n i, 1)) (hn : (i : Nat) < mi.2.2.2.1) (hp : am_put (i : Nat) (.inr (.inr x)) ls = ls') (k : am_W K d mi (pc + 1) ls' st M post) : am_W K d mi pc ls (.inr (.inr x) :: st) M post := by
  intro p e s m args below meth c H locs la hK hI hP hS hl hlk hsk
  refine lv_astore_n hI.1 hI.2.1 hd rfl hl hn rfl (fun la' hla => ?_)
  subst hp
  exact k p e s m args below meth c H locs la' hK hI hP hS (hla.less fun q hq => am_put_1 hq) (am_put_k (am_hd hsk) hlk) (am_tl hsk)
theorem am_astore {i : Nat} {x : am_L} {ls' : List (Nat × am_V)} (hd : decode mi.2.2.1 pc = .ok (.astore i, 2)) (hn : i < mi.2.2.2.1) (hp : am_put i (.inr (.inr x)) ls = ls') (k : am_W K d mi (pc + 2) ls' st M post) : am_W K d mi pc ls (.inr (.inr x) :: st) M post := by
  intro p e s m args below meth c H locs la hK hI hP hS hl hlk hsk
  refine lv_astore hI.1 hI.2.1 hd hl hn rfl (fun la' hla => ?_)
  subst hp
  exact k p e s m args below meth c H locs la' hK hI hP hS (hla.less fun q hq => am_put_1 hq) (am_put_k (am_hd hsk) hlk) (am_tl hsk)
theorem am_iinc {i : Nat} {n : Int} {x v : Int32} {ls' : List (Nat × am_V)} (hd : decode mi.2.2.1 pc = .ok (.iinc i n, 3)) (hg : am_get i ls = some (.inl x)) (hv : x + Int32.ofInt n = v) (hn : i < mi.2.2.2.1) (hp : am_put i (.inl v) ls = ls') (k : am_W K d mi (pc + 3) ls' st M post) : am_W K d mi pc ls st M post := by
  intro p e s m args below meth c H locs la hK hI hP hS hl hlk hsk
  obtain ⟨q, hq⟩ := List.getElem?_of_mem (List.mem_map.mpr ⟨(i, .inl x), am_get_in hg, rfl⟩ : (i, am_v K (.inl x)) ∈ am_ls K ls)
  refine lv_iinc hI.1 hI.2.1 hd hl hq hv hn rfl (fun la' hla => ?_)
  subst hp
  exact k p e s m args below meth c H locs la' hK hI hP hS (hla.less fun q hq => am_put_1 hq) (am_put_k (v := .inl v) trivial hlk) hsk
theorem am_dup {v : am_V} (hd : decode mi.2.2.1 pc = .ok (.dup, 1)) (hc : am_cat v = 1) (k : am_W K d mi (pc + 1) ls (v :: v :: st) M post) : am_W K d mi pc ls (v :: st) M post := by
  intro p e s m args below meth c H locs la hK hI hP hS hl hlk hsk
  exact lv_dup hI.1 hI.2.1 hd ((am_cat_v K v).trans hc) (k p e s m args below meth c H locs la hK hI hP hS hl hlk (am_cs (am_hd hsk) hsk))
theorem am_pop {v : am_V} (hd : decode mi.2.2.1 pc = .ok (.pop, 1)) (hc : am_cat v = 1) (k : am_W K d mi (pc + 1) ls st M post) : am_W K d mi pc ls (v :: st) M post := by
  intro p e s m args below meth c H locs la hK hI hP hS hl hlk hsk
  exact lv_pop hI.1 hI.2.1 hd ((am_cat_v K v).trans hc) (k p e s m args below meth c H locs la hK hI hP hS hl hlk (am_tl hsk))
theorem am_pop2 {v : am_V} (hd : decode mi.2.2.1 pc = .ok (.pop2, 1)) (hc : am_cat v = 2) (k : am_W K d mi (pc + 1) ls st M post) : am_W K d mi pc ls (v :: st) M post := by
  intro p e s m args below meth c H locs la hK hI hP hS hl hlk hsk
  exact lv_pop2_2 hI.1 hI.2.1 hd ((am_cat_v K v).trans hc) (k p e s m args below meth c H locs la hK hI hP hS hl hlk (am_tl hsk))
theorem am_dup_x1 {v w : am_V} (hd : decode mi.2.2.1 pc = .ok (.dup_x1, 1)) (hc : am_cat v = 1) (hc2 : am_cat w = 1) (k : am_W K d mi (pc + 1) ls (v :: w :: v :: st) M post) : am_W K d mi pc ls (v :: w :: st) M post := by
  intro p e s m args below meth c H locs la hK hI hP hS hl hlk hsk
  exact lv_dup_x1 hI.1 hI.2.1 hd ((am_cat_v K v).trans hc) ((am_cat_v K w).trans hc2) (k p e s m args below meth c H locs la hK hI hP hS hl hlk (am_cs (am_hd hsk) (am_cs (am_hd (am_tl hsk)) (am_cs (am_hd hsk) (am_tl (am_tl hsk))))))
theorem am_dup2 {v w : am_V} (hd : decode mi.2.2.1 pc = .ok (.dup2, 1)) (hc : am_cat v = 1) (hc2 : am_cat w = 1) (k : am_W K d mi (pc + 1) ls (v :: w :: v :: w :: st) M post) : am_W K d mi pc ls (v :: w :: st) M post := by
  intro p e s m args below meth c H locs la hK hI hP hS hl hlk hsk
  exact lv_dup2_11 hI.1 hI.2.1 hd ((am_cat_v K v).trans hc) ((am_cat_v K w).trans hc2) (k p e s m args below meth c H locs la hK hI hP hS hl hlk (am_cs (am_hd hsk) (am_cs (am_hd (am_tl hsk)) hsk)))
theorem am_if_eq {x : Int32} {off : Int} (tgt : Nat) (hd : decode mi.2.2.1 pc = .ok (.ifCond .eq off, 3)) (ht : (pc : Int) + off = (tgt : Int)) (kt : x = 0 → am_W K d mi tgt ls st M post) (kf : ¬ x = 0 → am_W K d mi (pc + 3) ls st M post) : am_W K d mi pc ls (.inl x :: st) M post := by
  intro p e s m args below meth c H locs la hK hI hP hS hl hlk hsk
  exact lv_if_eq hI.1 hI.2.1 hd ht (fun h => kt h p e s m args below meth c H locs la hK hI hP hS hl hlk (am_tl hsk)) (fun h => kf h p e s m args below meth c H locs la hK hI hP hS hl hlk (am_tl hsk))
theorem am_if_ne {x : Int32} {off : Int} (tgt : Nat) (hd : decode mi.2.2.1 pc = .ok (.ifCond .ne off, 3)) (ht : (pc : Int) + off = (tgt : Int)) (kt : ¬ x = 0 → am_W K d mi tgt ls st M post) (kf : x = 0 → am_W K d mi (pc + 3) ls st M post) : am_W K d mi pc ls (.inl x :: st) M post := by
  intro p e s m args below meth c H locs la hK hI hP hS hl hlk hsk
  exact lv_if_ne hI.1 hI.2.1 hd ht (fun h => kt h p e s m args below meth c H locs la hK hI hP hS hl hlk (am_tl hsk)) (fun h => kf h p e s m args below meth c H locs la hK hI hP hS hl hlk (am_tl hsk))
theorem am_if_lt {x : Int32} {off : Int} (tgt : Nat) (hd : decode mi.2.2.1 pc = .ok (.ifCond .lt off, 3)) (ht : (pc : Int) + off = (tgt : Int)) (kt : x < 0 → am_W K d mi tgt ls st M post) (kf : ¬ x < 0 → am_W K d mi (pc + 3) ls st M post) : am_W K d mi pc ls (.inl x :: st) M post := by
  intro p e s m args below meth c H locs la hK hI hP hS hl hlk hsk
  exact lv_if_lt hI.1 hI.2.1 hd ht (fun h => kt h p e s m args below meth c H locs la hK hI hP hS hl hlk (am_tl hsk)) (fun h => kf h p e s m args below meth c H locs la hK hI hP hS hl hlk (am_tl hsk))
theorem am_if_ge {x : Int32} {off : Int} (tgt : Nat) (hd : decode mi.2.2.1 pc = .ok (.ifCond .ge off, 3)) (ht : (pc : Int) + off = (tgt : Int)) (kt : 0 ≤ x → am_W K d mi tgt ls st M post) (kf : ¬ 0 ≤ x → am_W K d mi (pc + 3) ls st M post) : am_W K d mi pc ls (.inl x :: st) M post := by
  intro p e s m args below meth c H locs la hK hI hP hS hl hlk hsk
  exact lv_if_ge hI.1 hI.2.1 hd ht (fun h => kt h p e s m args below meth c H locs la hK hI hP hS hl hlk (am_tl hsk)) (fun h => kf h p e s m args below meth c H locs la hK hI hP hS hl hlk (am_tl hsk))
theorem am_if_gt {x : Int32} {off : Int} (tgt : Nat) (hd : decode mi.2.2.1 pc = .ok (.ifCond .gt off, 3)) (ht : (pc : Int) + off = (tgt : Int)) (kt : 0 < x → am_W K d mi tgt ls st M post) (kf : ¬ 0 < x → am_W K d mi (pc + 3) ls st M post) : am_W K d mi pc ls (.inl x :: st) M post := by
  intro p e s m args below meth c H locs la hK hI hP hS hl hlk hsk
  exact lv_if_gt hI.1 hI.2.1 hd ht (fun h => kt h p e s m args below meth c H locs la hK hI hP hS hl hlk (am_tl hsk)) (fun h => kf h p e s m args below meth c H locs la hK hI hP hS hl hlk (am_tl hsk))
theorem am_if_le {x : Int32} {off : Int} (tgt : Nat) (hd : decode mi.2.2.1 pc = .ok (.ifCond .le off, 3)) (ht : (pc : Int) + off = (tgt : Int)) (kt : x ≤ 0 → am_W K d mi tgt ls st M post) (kf : ¬ x ≤ 0 → am_W K d mi (pc + 3) ls st M post) : am_W K d mi pc ls (.inl x :: st) M post := by
  intro p e s m args below meth c H locs la hK hI hP hS hl hlk hsk
  exact lv_if_le hI.1 hI.2.1 hd ht (fun h => kt h p e s m args below meth c H locs la hK hI hP hS hl hlk (am_tl hsk)) (fun h => kf h p e s m args below meth c H locs la hK hI hP hS hl hlk (am_tl hsk))
theorem am_icmp_eq {x y : Int32} {off : Int} (tgt : Nat) (hd : decode mi.2.2.1 pc = .ok (.if_icmp .eq off, 3)) (ht : (pc : Int) + off = (tgt : Int)) (kt : x = y → am_W K d mi tgt ls st M post) (kf : ¬ x = y → am_W K d mi (pc + 3) ls st M post) : am_W K d mi pc ls (.inl y :: .inl x :: st) M post := by
  intro p e s m args below meth c H locs la hK hI hP hS hl hlk hsk
  exact lv_icmp_eq hI.1 hI.2.1 hd ht (fun h => kt h p e s m args below meth c H locs la hK hI hP hS hl hlk (am_tl (am_tl hsk))) (fun h => kf h p e s m args below meth c H locs la hK hI hP hS hl hlk (am_tl (am_tl hsk)))
theorem am_icmp_ne {x y : Int32} {off : Int} (tgt : Nat) (hd : decode mi.2.2.1 pc = .ok (.if_icmp .ne off, 3)) (ht : (pc : Int) + off = (tgt : Int)) (kt : ¬ x = y → am_W K d mi tgt ls st M post) (kf : x = y → am_W K d mi (pc + 3) ls st M post) : am_W K d mi pc ls (.inl y :: .inl x :: st) M post := by
  intro p e s m args below meth c H locs la hK hI hP hS hl hlk hsk
  exact lv_icmp_ne hI.1 hI.2.1 hd ht (fun h => kt h p e s m args below meth c H locs la hK hI hP hS hl hlk (am_tl (am_tl hsk))) (fun h => kf h p e s m args below meth c H locs la hK hI hP hS hl hlk (am_tl (am_tl hsk)))
theorem am_icmp_lt {x y : Int32} {off : Int} (tgt : Nat) (hd : decode mi.2.2.1 pc = .ok (.if_icmp .lt off, 3)) (ht : (pc : Int) + off = (tgt : Int)) (kt : x < y → am_W K d mi tgt ls st M post) (kf : ¬ x < y → am_W K d mi (pc + 3) ls st M post) : am_W K d mi pc ls (.inl y :: .inl x :: st) M post := by
  intro p e s m args below meth c H locs la hK hI hP hS hl hlk hsk
  exact lv_icmp_lt hI.1 hI.2.1 hd ht (fun h => kt h p e s m args below meth c H locs la hK hI hP hS hl hlk (am_tl (am_tl hsk))) (fun h => kf h p e s m args below meth c H locs la hK hI hP hS hl hlk (am_tl (am_tl hsk)))
theorem am_icmp_ge {x y : Int32} {off : Int} (tgt : Nat) (hd : decode mi.2.2.1 pc = .ok (.if_icmp .ge off, 3)) (ht : (pc : Int) + off = (tgt : Int)) (kt : y ≤ x → am_W K d mi tgt ls st M post) (kf : ¬ y ≤ x → am_W K d mi (pc + 3) ls st M post) : am_W K d mi pc ls (.inl y :: .inl x :: st) M post := by
  intro p e s m args below meth c H locs la hK hI hP hS hl hlk hsk
  exact lv_icmp_ge hI.1 hI.2.1 hd ht (fun h => kt h p e s m args below meth c H locs la hK hI hP hS hl hlk (am_tl (am_tl hsk))) (fun h => kf h p e s m args below meth c H locs la hK hI hP hS hl hlk (am_tl (am_tl hsk)))
theorem am_icmp_gt {x y : Int32} {off : Int} (tgt : Nat) (hd : decode mi.2.2.1 pc = .ok (.if_icmp .gt off, 3)) (ht : (pc : Int) + off = (tgt : Int)) (kt : y < x → am_W K d mi tgt ls st M post) (kf : ¬ y < x → am_W K d mi (pc + 3) ls st M post) : am_W K d mi pc ls (.inl y :: .inl x :: st) M post := by
  intro p e s m args below meth c H locs la hK hI hP hS hl hlk hsk
  exact lv_icmp_gt hI.1 hI.2.1 hd ht (fun h => kt h p e s m args below meth c H locs la hK hI hP hS hl hlk (am_tl (am_tl hsk))) (fun h => kf h p e s m args below meth c H locs la hK hI hP hS hl hlk (am_tl (am_tl hsk)))
theorem am_icmp_le {x y : Int32} {off : Int} (tgt : Nat) (hd : decode mi.2.2.1 pc = .ok (.if_icmp .le off, 3)) (ht : (pc : Int) + off = (tgt : Int)) (kt : x ≤ y → am_W K d mi tgt ls st M post) (kf : ¬ x ≤ y → am_W K d mi (pc + 3) ls st M post) : am_W K d mi pc ls (.inl y :: .inl x :: st) M post := by
  intro p e s m args below meth c H locs la hK hI hP hS hl hlk hsk
  exact lv_icmp_le hI.1 hI.2.1 hd ht (fun h => kt h p e s m args below meth c H locs la hK hI hP hS hl hlk (am_tl (am_tl hsk))) (fun h => kf h p e s m args below meth c H locs la hK hI hP hS hl hlk (am_tl (am_tl hsk)))
theorem am_goto {off : Int} (tgt : Nat) (hd : decode mi.2.2.1 pc = .ok (.goto off, 3)) (ht : (pc : Int) + off = (tgt : Int)) (k : am_W K d mi tgt ls st M post) : am_W K d mi pc ls st M post := by
  intro p e s m args below meth c H locs la hK hI hP hS hl hlk hsk
  exact lv_goto hI.1 hI.2.1 hd ht (k p e s m args below meth c H locs la hK hI hP hS hl hlk hsk)
theorem am_swIn {dflt lo hi : Int} {offs : Array Int} {len : Nat} {x : Int32} {off : Int} (tgt : Nat) (hd : decode mi.2.2.1 pc = .ok (.tableswitch dflt lo hi offs, len)) (h1 : ¬ x.toInt < lo) (h2 : ¬ hi < x.toInt) (ho : offs[(x.toInt - lo).toNat]? = some off) (ht : (pc : Int) + off = (tgt : Int)) (k : am_W K d mi tgt ls st M post) : am_W K d mi pc ls (.inl x :: st) M post := by
  intro p e s m args below meth c H locs la hK hI hP hS hl hlk hsk
  exact lv_tableIn hI.1 hI.2.1 hd h1 h2 ho ht (k p e s m args below meth c H locs la hK hI hP hS hl hlk (am_tl hsk))
theorem am_swOut {dflt lo hi : Int} {offs : Array Int} {len : Nat} {x : Int32} (tgt : Nat) (hd : decode mi.2.2.1 pc = .ok (.tableswitch dflt lo hi offs, len)) (h : x.toInt < lo ∨ hi < x.toInt) (ht : (pc : Int) + dflt = (tgt : Int)) (k : am_W K d mi tgt ls st M post) : am_W K d mi pc ls (.inl x :: st) M post := by
  intro p e s m args below meth c H locs la hK hI hP hS hl hlk hsk
  exact lv_tableOut hI.1 hI.2.1 hd h ht (k p e s m args below meth c H locs la hK hI hP hS hl hlk (am_tl hsk))
/-- a field's link: class number, how many fields, which -/
def am_FL (own : String) (idx ci N j : Nat) : Prop := ∃ (C : String) (T : u_T), vwCl[ci]? = some (C, T, N) ∧ j < N ∧ Cond.fieldLink own idx (T j).1 (T j).2.1 (T j).2.2.1 ∈ am_T ∧ (∀ w ∈ u_ws C T N, w ∈ am_T) ∧ ∃ ty : Nat → FieldType, (∀ k, k < N → parseFieldDescriptor (T k).2.2.1 = some (ty k)) ∧ (∀ a, a < N → ∀ b, b < N → a ≠ b → (T a).2.1 ≠ (T b).2.1)
/-- a field that is written -/
def am_FP (ci j : Nat) (ty : FieldType) : Prop := ∃ q : vw_C, vwCl[ci]? = some q ∧ (q.2.1 j).2.2.2 = false ∧ parseFieldDescriptor (q.2.1 j).2.2.1 = some ty
theorem am_getI {k o i idx ci N j : Nat} {f : Nat → am_F} (hd : decode mi.2.2.1 pc = .ok (.getfield idx, 3)) (hl0 : am_FL mi.1 idx ci N j) (hs : am_sh k = .inl (ci, N, f)) (hf : f j = .inl 0) (hk : k < 9000) (kk : am_W K d mi (pc + 3) ls (.inl (M.1 k o i j) :: st) M post) : am_W K d mi pc ls (.inr (.inr (k, o, i)) :: st) M post := by
  intro p e s m args below meth c H locs la hK hI hP hS hl hlk hsk
  obtain ⟨C, T, hc, hj, hlink, hin, -⟩ := hl0
  have hq : (k, o, i) ∈ am_dom K := am_in hk (am_hd hsk)
  obtain ⟨q0, hq0⟩ := am_place hq
  have he := am_wsK M hq0
  rw [am_e_obj hs] at he
  exact va_get (D := am_D K) (cl := vwCl) (tys := am_tys K) (ws := am_ws K M) (Ts := am_T) (ref := (T j).1) (v := .int (M.1 k o i j)) hI.1 hI.2.1 hI.2.2.2.2.2.1 hin hI.2.2.2.2.1 hI.2.2.2.2.2.2.2.1 hP q0 he hc j hj (hI.2.2.2.2.2.1 _ hlink) (fun _ h => h) (by rw [am_rg hj, hf]; rfl) hd (kk p e s m args below meth c H locs la hK hI hP hS hl hlk (am_cs trivial (am_tl hsk)))
theorem am_getL {k o i idx ci N j : Nat} {f : Nat → am_F} (hd : decode mi.2.2.1 pc = .ok (.getfield idx, 3)) (hl0 : am_FL mi.1 idx ci N j) (hs : am_sh k = .inl (ci, N, f)) (hf : f j = .inl 1) (hk : k < 9000) (kk : am_W K d mi (pc + 3) ls (.inr (.inl (M.2 k o i j)) :: st) M post) : am_W K d mi pc ls (.inr (.inr (k, o, i)) :: st) M post := by
  intro p e s m args below meth c H locs la hK hI hP hS hl hlk hsk
  obtain ⟨C, T, hc, hj, hlink, hin, -⟩ := hl0
  have hq : (k, o, i) ∈ am_dom K := am_in hk (am_hd hsk)
  obtain ⟨q0, hq0⟩ := am_place hq
  have he := am_wsK M hq0
  rw [am_e_obj hs] at he
  exact va_get (D := am_D K) (cl := vwCl) (tys := am_tys K) (ws := am_ws K M) (Ts := am_T) (ref := (T j).1) (v := .long (M.2 k o i j)) hI.1 hI.2.1 hI.2.2.2.2.2.1 hin hI.2.2.2.2.1 hI.2.2.2.2.2.2.2.1 hP q0 he hc j hj (hI.2.2.2.2.2.1 _ hlink) (fun _ h => h) (by rw [am_rg hj, hf]; rfl) hd (kk p e s m args below meth c H locs la hK hI hP hS hl hlk (am_cs trivial (am_tl hsk)))
theorem am_getR {k o i idx ci N j : Nat} {f : Nat → am_F} {k' o' : Nat} {ob : Option Nat} (hd : decode mi.2.2.1 pc = .ok (.getfield idx, 3)) (hl0 : am_FL mi.1 idx ci N j) (hs : am_sh k = .inl (ci, N, f)) (hf : f j = .inr (k', ob)) (ho : ob.getD o = o') (hk : k < 9000) (kk : am_W K d mi (pc + 3) ls ((.inr (.inr (k', o', 0))) :: st) M post) : am_W K d mi pc ls (.inr (.inr (k, o, i)) :: st) M post := by
  intro p e s m args below meth c H locs la hK hI hP hS hl hlk hsk
  obtain ⟨C, T, hc, hj, hlink, hin, -⟩ := hl0
  have hq : (k, o, i) ∈ am_dom K := am_in hk (am_hd hsk)
  obtain ⟨q0, hq0⟩ := am_place hq
  have he := am_wsK M hq0
  rw [am_e_obj hs] at he
  have hmem : (k', o', 0) ∈ am_dom K := by
    have := hK.2.2.1 (k, o, i) hq ci N f j (k', ob) hs hj hf
    rw [← ho]
    exact this
  exact va_get (D := am_D K) (cl := vwCl) (tys := am_tys K) (ws := am_ws K M) (Ts := am_T) (ref := (T j).1) (v := Value.ref (am_ad K (k', o', 0))) hI.1 hI.2.1 hI.2.2.2.2.2.1 hin hI.2.2.2.2.1 hI.2.2.2.2.2.2.2.1 hP q0 he hc j hj (hI.2.2.2.2.2.1 _ hlink) (fun _ h => h) (by rw [am_rg hj, hf, ← ho]; rfl) hd (kk p e s m args below meth c H locs la hK hI hP hS hl hlk (am_cs (Or.inl hmem) (am_tl hsk)))
theorem am_putI_f {k o i N j : Nat} {f : Nat → am_F} {x : Int32} (hf : f j = .inl 0) : ((List.range N).map (fun j => am_fv K M (k, o, i) j (f j))).set j (.int x) = (List.range N).map (fun j' => am_fv K (am_si M k o i j x) (k, o, i) j' (f j')) := by
  refine am_rgS ?_ (fun j' hj' => ?_)
  · rw [hf]
    exact congrArg Value.int (am_si_self M k o i j x)
  · show am_fv K _ (k, o, i) j' (f j') = am_fv K M (k, o, i) j' (f j')
    unfold am_fv
    split
    · exact congrArg Value.int (am_si_ne (fun z => hj' z.2.2.2))
    · rfl
    · rfl
    · rfl
theorem am_putI {k o i idx ci N j : Nat} {f : Nat → am_F} {x : Int32} {ty : FieldType} (hd : decode mi.2.2.1 pc = .ok (.putfield idx, 3)) (hl0 : am_FL mi.1 idx ci N j) (hfp : am_FP ci j ty) (hs : am_sh k = .inl (ci, N, f)) (hf : f j = .inl 0) (hn : narrow ty (.int x) = .int x) (hfit : fits ty (.int x) = true) (hk : k < 9000) (kk : am_W K d mi (pc + 3) ls st (am_si M k o i j x) post) : am_W K d mi pc ls (.inl x :: .inr (.inr (k, o, i)) :: st) M post := by
  intro p e s m args below meth c H locs la hK hI hP hS hl hlk hsk
  obtain ⟨C, T, hc, hj, hlink, hin, ty0, hty, hnm⟩ := hl0
  obtain ⟨q, hq1, hq2, hq3⟩ := hfp
  cases (hc.symm.trans hq1)
  have hq : (k, o, i) ∈ am_dom K := am_in hk (am_hd (am_tl hsk))
  obtain ⟨q0, hq0⟩ := am_place hq
  have he := am_wsK M hq0
  rw [am_e_obj hs] at he
  refine va_put (D := am_D K) (cl := vwCl) (tys := am_tys K) (ws := am_ws K M) (Ts := am_T) (ref := (T j).1) (v := .int x) (ty := ty) hI.1 hI.2.1 hI.2.2.2.2.2.1 hin ty0 hty hnm hI.2.2.2.2.1 hI.2.2.2.2.2.2.2.1 hP (am_wsD hK M) hS q0 he hc j hj (hI.2.2.2.2.2.1 _ hlink) (fun _ h => h) hq2 hq3 hn hfit (by rw [List.length_map, List.length_range]; exact hj) hd (fun H1 locs1 hP1 _ hS1 => ?_)
  rw [am_putI_f hf, am_wsS (M' := am_si M k o i j x) hK hq0 (am_e_obj hs) (fun r hr => am_si_e hr)] at hP1
  exact kk p e s m args below meth c H1 locs1 la hK hI hP1 hS1 hl hlk (am_tl (am_tl hsk))
theorem am_putL_f {k o i N j : Nat} {f : Nat → am_F} {x : Int64} (hf : f j = .inl 1) : ((List.range N).map (fun j => am_fv K M (k, o, i) j (f j))).set j (.long x) = (List.range N).map (fun j' => am_fv K (am_sl M k o i j x) (k, o, i) j' (f j')) := by
  refine am_rgS ?_ (fun j' hj' => ?_)
  · rw [hf]
    exact congrArg Value.long (am_sl_self M k o i j x)
  · show am_fv K _ (k, o, i) j' (f j') = am_fv K M (k, o, i) j' (f j')
    unfold am_fv
    split
    · rfl
    · exact congrArg Value.long (am_sl_ne (fun z => hj' z.2.2.2))
    · rfl
    · rfl
theorem am_putL {k o i idx ci N j : Nat} {f : Nat → am_F} {x : Int64} {ty : FieldType} (hd : decode mi.2.2.1 pc = .ok (.putfield idx, 3)) (hl0 : am_FL mi.1 idx ci N j) (hfp : am_FP ci j ty) (hs : am_sh k = .inl (ci, N, f)) (hf : f j = .inl 1) (hn : narrow ty (.long x) = .long x) (hfit : fits ty (.long x) = true) (hk : k < 9000) (kk : am_W K d mi (pc + 3) ls st (am_sl M k o i j x) post) : am_W K d mi pc ls (.inr (.inl x) :: .inr (.inr (k, o, i)) :: st) M post := by
  intro p e s m args below meth c H locs la hK hI hP hS hl hlk hsk
  obtain ⟨C, T, hc, hj, hlink, hin, ty0, hty, hnm⟩ := hl0
  obtain ⟨q, hq1, hq2, hq3⟩ := hfp
  cases (hc.symm.trans hq1)
  have hq : (k, o, i) ∈ am_dom K := am_in hk (am_hd (am_tl hsk))
  obtain ⟨q0, hq0⟩ := am_place hq
  have he := am_wsK M hq0
  rw [am_e_obj hs] at he
  refine va_put (D := am_D K) (cl := vwCl) (tys := am_tys K) (ws := am_ws K M) (Ts := am_T) (ref := (T j).1) (v := .long x) (ty := ty) hI.1 hI.2.1 hI.2.2.2.2.2.1 hin ty0 hty hnm hI.2.2.2.2.1 hI.2.2.2.2.2.2.2.1 hP (am_wsD hK M) hS q0 he hc j hj (hI.2.2.2.2.2.1 _ hlink) (fun _ h => h) hq2 hq3 hn hfit (by rw [List.length_map, List.length_range]; exact hj) hd (fun H1 locs1 hP1 _ hS1 => ?_)
  rw [am_putL_f hf, am_wsS (M' := am_sl M k o i j x) hK hq0 (am_e_obj hs) (fun r hr => am_sl_e hr)] at hP1
  exact kk p e s m args below meth c H1 locs1 la hK hI hP1 hS1 hl hlk (am_tl (am_tl hsk))
theorem am_iaload {k o i n : Nat} {x : Int32} (hd : decode mi.2.2.1 pc = .ok (.iaload, 1)) (hs : am_sh k = .inr (.inl (0, n))) (hk : k < 9000) (hin : vp_in x n) (kk : am_W K d mi (pc + 1) ls (.inl (M.1 k o i x.toNatClampNeg) :: st) M post) : am_W K d mi pc ls (.inl x :: .inr (.inr (k, o, i)) :: st) M post := by
  intro p e s m args below meth c H locs la hK hI hP hS hl hlk hsk
  obtain ⟨q0, hq0⟩ := am_place (am_in hk (am_hd (am_tl hsk)))
  have he := am_wsK M hq0
  rw [am_e_int hs] at he
  exact va_iald (D := am_D K) (cl := vwCl) (tys := am_tys K) (ws := am_ws K M) hI.1 hI.2.1 hI.2.2.2.2.2.2.2.1 hP q0 0 he rfl hin hd (kk p e s m args below meth c H locs la hK hI hP hS hl hlk (am_cs trivial (am_tl (am_tl hsk))))
theorem am_zaload {k o i n : Nat} {x : Int32} (hd : decode mi.2.2.1 pc = .ok (.baload, 1)) (hs : am_sh k = .inr (.inl (1, n))) (hk : k < 9000) (hin : vp_in x n) (kk : am_W K d mi (pc + 1) ls (.inl (M.1 k o i x.toNatClampNeg) :: st) M post) : am_W K d mi pc ls (.inl x :: .inr (.inr (k, o, i)) :: st) M post := by
  intro p e s m args below meth c H locs la hK hI hP hS hl hlk hsk
  obtain ⟨q0, hq0⟩ := am_place (am_in hk (am_hd (am_tl hsk)))
  have he := am_wsK M hq0
  rw [am_e_bool hs] at he
  exact va_zald (D := am_D K) (cl := vwCl) (tys := am_tys K) (ws := am_ws K M) hI.1 hI.2.1 hI.2.2.2.2.2.2.2.1 hP q0 1 he rfl hin hd (kk p e s m args below meth c H locs la hK hI hP hS hl hlk (am_cs trivial (am_tl (am_tl hsk))))
theorem am_laload {k o i n : Nat} {x : Int32} (hd : decode mi.2.2.1 pc = .ok (.laload, 1)) (hs : am_sh k = .inr (.inl (2, n))) (hk : k < 9000) (hin : vp_in x n) (kk : am_W K d mi (pc + 1) ls (.inr (.inl (M.2 k o i x.toNatClampNeg)) :: st) M post) : am_W K d mi pc ls (.inl x :: .inr (.inr (k, o, i)) :: st) M post := by
  intro p e s m args below meth c H locs la hK hI hP hS hl hlk hsk
  obtain ⟨q0, hq0⟩ := am_place (am_in hk (am_hd (am_tl hsk)))
  have he := am_wsK M hq0
  rw [am_e_long hs] at he
  exact va_lald (D := am_D K) (cl := vwCl) (tys := am_tys K) (ws := am_ws K M) hI.1 hI.2.1 hI.2.2.2.2.2.2.2.1 hP q0 2 he rfl hin hd (kk p e s m args below meth c H locs la hK hI hP hS hl hlk (am_cs trivial (am_tl (am_tl hsk))))
theorem am_iastore {k o i n : Nat} {x : Int32} {v : Int32} (hd : decode mi.2.2.1 pc = .ok (.iastore, 1)) (hs : am_sh k = .inr (.inl (0, n))) (hk : k < 9000) (hin : vp_in x n) (kk : am_W K d mi (pc + 1) ls st (am_si M k o i x.toNatClampNeg v) post) : am_W K d mi pc ls (.inl v :: .inl x :: .inr (.inr (k, o, i)) :: st) M post := by
  intro p e s m args below meth c H locs la hK hI hP hS hl hlk hsk
  obtain ⟨q0, hq0⟩ := am_place (am_in hk (am_hd (am_tl (am_tl hsk))))
  have he := am_wsK M hq0
  rw [am_e_int hs] at he
  refine va_iast (D := am_D K) (cl := vwCl) (tys := am_tys K) (ws := am_ws K M) hI.1 hI.2.1 hI.2.2.2.2.2.2.2.1 hP (am_wsD hK M) hS q0 0 he rfl hin hd (fun H1 locs1 hP1 _ hS1 => ?_)
  have hu : upd (fun j => M.1 k o i j) x.toNatClampNeg v = (fun j => (am_si M k o i x.toNatClampNeg v).1 k o i j) := funext fun j => by simp [upd, am_si]
  rw [hu, am_wsS (M' := am_si M k o i x.toNatClampNeg v) hK hq0 (am_e_int hs) (fun r hr => am_si_e hr)] at hP1
  exact kk p e s m args below meth c H1 locs1 la hK hI hP1 hS1 hl hlk (am_tl (am_tl (am_tl hsk)))
theorem am_zastore {k o i n : Nat} {x : Int32} {v : Int32} (hd : decode mi.2.2.1 pc = .ok (.bastore, 1)) (hs : am_sh k = .inr (.inl (1, n))) (hk : k < 9000) (hin : vp_in x n) (hv : vp_nar .boolean v = v) (kk : am_W K d mi (pc + 1) ls st (am_si M k o i x.toNatClampNeg v) post) : am_W K d mi pc ls (.inl v :: .inl x :: .inr (.inr (k, o, i)) :: st) M post := by
  intro p e s m args below meth c H locs la hK hI hP hS hl hlk hsk
  obtain ⟨q0, hq0⟩ := am_place (am_in hk (am_hd (am_tl (am_tl hsk))))
  have he := am_wsK M hq0
  rw [am_e_bool hs] at he
  refine va_zast (D := am_D K) (cl := vwCl) (tys := am_tys K) (ws := am_ws K M) hI.1 hI.2.1 hI.2.2.2.2.2.2.2.1 hP (am_wsD hK M) hS q0 1 he rfl hin hd (fun H1 locs1 hP1 _ hS1 => ?_)
  rw [hv] at hP1
  have hu : upd (fun j => M.1 k o i j) x.toNatClampNeg v = (fun j => (am_si M k o i x.toNatClampNeg v).1 k o i j) := funext fun j => by simp [upd, am_si]
  rw [hu, am_wsS (M' := am_si M k o i x.toNatClampNeg v) hK hq0 (am_e_bool hs) (fun r hr => am_si_e hr)] at hP1
  exact kk p e s m args below meth c H1 locs1 la hK hI hP1 hS1 hl hlk (am_tl (am_tl (am_tl hsk)))
theorem am_lastore {k o i n : Nat} {x : Int32} {v : Int64} (hd : decode mi.2.2.1 pc = .ok (.lastore, 1)) (hs : am_sh k = .inr (.inl (2, n))) (hk : k < 9000) (hin : vp_in x n) (kk : am_W K d mi (pc + 1) ls st (am_sl M k o i x.toNatClampNeg v) post) : am_W K d mi pc ls (.inr (.inl v) :: .inl x :: .inr (.inr (k, o, i)) :: st) M post := by
  intro p e s m args below meth c H locs la hK hI hP hS hl hlk hsk
  obtain ⟨q0, hq0⟩ := am_place (am_in hk (am_hd (am_tl (am_tl hsk))))
  have he := am_wsK M hq0
  rw [am_e_long hs] at he
  refine va_last (D := am_D K) (cl := vwCl) (tys := am_tys K) (ws := am_ws K M) hI.1 hI.2.1 hI.2.2.2.2.2.2.2.1 hP (am_wsD hK M) hS q0 2 he rfl hin hd (fun H1 locs1 hP1 _ hS1 => ?_)
  have hu : vp_updL (fun j => M.2 k o i j) x.toNatClampNeg v = (fun j => (am_sl M k o i x.toNatClampNeg v).2 k o i j) := funext fun j => by simp [vp_updL, am_sl]
  rw [hu, am_wsS (M' := am_sl M k o i x.toNatClampNeg v) hK hq0 (am_e_long hs) (fun r hr => am_sl_e hr)] at hP1
  exact kk p e s m args below meth c H1 locs1 la hK hI hP1 hS1 hl hlk (am_tl (am_tl (am_tl hsk)))
theorem am_aaload {k o i t n : Nat} {g : Nat → Nat → am_L} {ty : FieldType} {x : Int32} (hd : decode mi.2.2.1 pc = .ok (.aaload, 1)) (hs : am_sh k = .inr (.inr (t, n, g))) (ht : (am_tys K)[t]? = some (am_cA K t, ty)) (hty : ty.isReference = true) (hk : k < 9000) (hin : vp_in x n) (kk : am_W K d mi (pc + 1) ls (.inr (.inr (g o x.toNatClampNeg)) :: st) M post) : am_W K d mi pc ls (.inl x :: .inr (.inr (k, o, i)) :: st) M post := by
  intro p e s m args below meth c H locs la hK hI hP hS hl hlk hsk
  have hq := am_in hk (am_hd (am_tl hsk))
  obtain ⟨q0, hq0⟩ := am_place hq
  have he := am_wsK M hq0
  rw [am_e_ref hs] at he
  have hlt : x.toNatClampNeg < n := Nat.not_le.mp fun q => hin (Or.inr q)
  exact W.aald (v := .ref (am_ad K (g o x.toNatClampNeg))) (ty := ty) hI.1 hI.2.1 (hP q0 _ he) ((hI.2.2.2.2.2.2.2.1.2 t _ ht).1 n (fun j => va_rf (some (am_ad K (g o j))))) hty (fun q => by cases q) (by show ¬ (x < 0 ∨ (arrV _ _ _).slots.size ≤ _); rw [arrV_size]; exact hin) (by show (arrV _ _ _).slots[_]? = _; rw [arrV_read _ _ hlt]; rfl) rfl rfl hd (kk p e s m args below meth c H locs la hK hI hP hS hl hlk (am_cs (Or.inl (hK.2.2.2 (k, o, i) hq t n g _ hs hlt)) (am_tl (am_tl hsk))))
theorem am_alen {k o i t n : Nat} {v : Int32} (hd : decode mi.2.2.1 pc = .ok (.arraylength, 1)) (hs : am_sh k = .inr (.inl (t, n))) (ht : t < 3) (hk : k < 9000) (hv : Int32.ofNat n = v) (kk : am_W K d mi (pc + 1) ls (.inl v :: st) M post) : am_W K d mi pc ls (.inr (.inr (k, o, i)) :: st) M post := by
  intro p e s m args below meth c H locs la hK hI hP hS hl hlk hsk
  obtain ⟨q0, hq0⟩ := am_place (am_in hk (am_hd hsk))
  have he := am_wsK M hq0
  have hX : ∃ z, am_e K M (k, o, i) = .inl (am_cA K t, n, z) := by
    rcases t with _ | _ | _ | t
    · exact ⟨_, am_e_int hs⟩
    · exact ⟨_, am_e_bool hs⟩
    · exact ⟨_, am_e_long hs⟩
    · omega
  obtain ⟨z, hz⟩ := hX
  rw [hz] at he
  have hty : ∃ ty, (am_tys K)[t]? = some (am_cA K t, ty) := by
    rcases t with _ | _ | _ | t
    · exact ⟨_, rfl⟩
    · exact ⟨_, rfl⟩
    · exact ⟨_, rfl⟩
    · omega
  obtain ⟨ty, hty⟩ := hty
  exact va_alen (D := am_D K) (cl := vwCl) (tys := am_tys K) (ws := am_ws K M) hI.1 hI.2.1 hI.2.2.2.2.2.2.2.1 hP q0 t he hty hv hd (kk p e s m args below meth c H locs la hK hI hP hS hl hlk (am_cs trivial (am_tl hsk)))
theorem am_ireturn {x : Int32} {ty : FieldType} (hd : decode mi.2.2.1 pc = .ok (.ireturn, 1)) (hr : mi.2.2.2.2 = some ty) (hn : narrow ty (.int x) = .int x) (h : post (some (.inl x)) M) : am_W K d mi pc ls [.inl x] M post := by
  intro p e s m args below meth c H locs la hK hI hP hS hl hlk hsk
  exact W.zret (v := x) hI.1 hI.2.1 (hI.2.2.1.trans hr) hn (fun t ht hW => ⟨⟨some (.inl x), M, rfl, h, (fun v hv => by cases hv; trivial), by rw [ht]; exact hP⟩, hS.F ht⟩) hS.2.2 hd hI.2.2.2.2.2.2.1
theorem am_lreturn {x : Int64} (hd : decode mi.2.2.1 pc = .ok (.lreturn, 1)) (hr : mi.2.2.2.2 = some .long) (h : post (some (.inr (.inl x))) M) : am_W K d mi pc ls [.inr (.inl x)] M post := by
  intro p e s m args below meth c H locs la hK hI hP hS hl hlk hsk
  exact W.lret (v := x) hI.1 hI.2.1 (hI.2.2.1.trans hr) (fun t ht hW => ⟨⟨some (.inr (.inl x)), M, rfl, h, (fun v hv => by cases hv; trivial), by rw [ht]; exact hP⟩, hS.F ht⟩) hS.2.2 hd hI.2.2.2.2.2.2.1
theorem am_return (hd : decode mi.2.2.1 pc = .ok (.return_, 1)) (hr : mi.2.2.2.2 = none) (h : post none M) : am_W K d mi pc ls [] M post := by
  intro p e s m args below meth c H locs la hK hI hP hS hl hlk hsk
  exact W.vret hI.1 hI.2.1 (hI.2.2.1.trans hr) (fun t ht hW => ⟨⟨none, M, rfl, h, (fun v hv => by cases hv), by rw [ht]; exact hP⟩, hS.F ht⟩) hS.2.2 hd hI.2.2.2.2.2.2.1
end AMR
