/-! The small machine: places have names that never change (kind, object, row), so the heap is two number functions; a judgement am_W over it, one row an instruction. -/
abbrev am_V : Type := Int32 ⊕ (Int64 ⊕ am_L)
abbrev am_M : Type := (Nat → Nat → Nat → Nat → Int32) × (Nat → Nat → Nat → Nat → Int64)
/-- what stands for ever: the launch, class numbers, where things lie, what isn't looked at, the arrays' classes, which things there are -/
abbrev am_K : Type := Launch × va_G × (am_L → Nat) × (Nat → Nat → Value) × (Nat → ClassId) × List am_L
abbrev am_l (K : am_K) : Launch := K.1
abbrev am_D (K : am_K) : va_G := K.2.1
abbrev am_ad (K : am_K) : am_L → Nat := K.2.2.1
abbrev am_opq (K : am_K) : Nat → Nat → Value := K.2.2.2.1
abbrev am_cA (K : am_K) : Nat → ClassId := K.2.2.2.2.1
abbrev am_dom (K : am_K) : List am_L := K.2.2.2.2.2
def am_v (K : am_K) : am_V → Value
  | .inl x => .int x
  | .inr (.inl y) => .long y
  | .inr (.inr q) => .ref (am_ad K q)
def am_cat : am_V → Nat
  | .inl _ => 1
  | .inr (.inl _) => 2
  | .inr (.inr _) => 1
theorem am_cat_v (K : am_K) (v : am_V) : (am_v K v).category = am_cat v := by
  rcases v with x | y | q <;> rfl
def am_fv (K : am_K) (M : am_M) (q : am_L) (j : Nat) : am_F → Value
  | .inl 0 => .int (M.1 q.1 q.2.1 q.2.2 j)
  | .inl 1 => .long (M.2 q.1 q.2.1 q.2.2 j)
  | .inl _ => am_opq K q.2.1 j
  | .inr r => .ref (am_ad K (r.1, r.2.getD q.2.1, 0))
def am_e (K : am_K) (M : am_M) (q : am_L) : va_E := match am_sh q.1 with
  | .inl s => .inr (s.1, (List.range s.2.1).map (fun j => am_fv K M q j (s.2.2 j)))
  | .inr (.inl (2, n)) => .inl (am_cA K 2, n, .inr (.inl (fun j => M.2 q.1 q.2.1 q.2.2 j)))
  | .inr (.inl (t, n)) => .inl (am_cA K t, n, .inl (fun j => M.1 q.1 q.2.1 q.2.2 j))
  | .inr (.inr a) => .inl (am_cA K a.1, a.2.1, .inr (.inr (.inr (.inr (fun j => some (am_ad K (a.2.2 q.2.1 j)))))))
def am_ws (K : am_K) (M : am_M) : va_W := (am_dom K).map (fun q => (am_ad K q, am_e K M q))
def am_A (K : am_K) : Nat → Prop := fun a => ∃ q ∈ am_dom K, am_ad K q = a
def am_vk (K : am_K) : am_V → Prop
  | .inl _ => True
  | .inr (.inl _) => True
  | .inr (.inr q) => q ∈ am_dom K ∨ 9000 ≤ q.1
/-- the things are apart, and with each thing its own are there -/
def am_ok (K : am_K) : Prop := (am_dom K).Nodup ∧ (∀ p ∈ am_dom K, ∀ q ∈ am_dom K, am_ad K p = am_ad K q → p = q) ∧
  (∀ p ∈ am_dom K, ∀ ci N f j r, am_sh p.1 = .inl (ci, N, f) → j < N → f j = .inr r → (r.1, r.2.getD p.2.1, 0) ∈ am_dom K) ∧
  (∀ p ∈ am_dom K, ∀ t n g j, am_sh p.1 = .inr (.inr (t, n, g)) → j < n → g p.2.1 j ∈ am_dom K)
/-- what else holds at a call's entry: nest mates' links; the two tables that nobody writes -/
def am_KA : List Int32 := [-1, 0, 1, 2, 2, 2, 1]
def am_OR : List Int32 := [1, 1, 2, 6, 24]
def am_sln : List Nat := [4, 4, 4, 4]
def am_sby : List (List Int32) := [[104, 101, 97, 112], [102, 97, 99, 116], [114, 101, 97, 100], [115, 119, 97, 112]]
def am_X (K : am_K) (U : State) : Prop :=
  va_Nw (.methodLinkNest RX2 31 yX4_isWithin "AlwaysAhead") U ∧ va_Nw (.methodLinkNest RX0 127 yX4_isWithin "AlwaysAhead") U ∧
  va_Z "AlwaysAhead" "KIND_ABOVE" "[I" (.ref (am_ad K (9000, 0, 0))) (am_A K) U U.heap ∧ va_T .int (am_ad K (9000, 0, 0)) 7 (fun j => .int (am_KA.getD j 0)) (am_A K) U U.heap ∧
  va_Z "AlwaysAhead" "ORDERS" "[I" (.ref (am_ad K (9001, 0, 0))) (am_A K) U U.heap ∧ va_T .int (am_ad K (9001, 0, 0)) 5 (fun j => .int (am_OR.getD j 0)) (am_A K) U U.heap ∧
  va_Z "java/lang/String" "COMPACT_STRINGS" "Z" (.int 1) (am_A K) U U.heap ∧ va_Zq "jdk/internal/util/Preconditions" "SIOOBE_FORMATTER" "Ljava/util/function/BiFunction;" (am_A K) U U.heap ∧
  vk_S 4 am_sln am_sby (fun i => am_ad K (9100, i, 0)) (fun i => am_ad K (9101, i, 0)) (am_A K) U U.heap ∧
  vk_R RX3 32 "heap" (am_ad K (9100, 0, 0)) U ∧ vk_R RX3 41 "fact" (am_ad K (9100, 1, 0)) U ∧ vk_R RX3 46 "read" (am_ad K (9100, 2, 0)) U ∧ vk_R RX3 51 "swap" (am_ad K (9100, 3, 0)) U ∧
  vk_R RX5 212 "heap" (am_ad K (9100, 0, 0)) U ∧ vk_R RX5 231 "fact" (am_ad K (9100, 1, 0)) U ∧ vk_R RX5 226 "read" (am_ad K (9100, 2, 0)) U ∧ vk_R RX5 221 "swap" (am_ad K (9100, 3, 0)) U
def am_tys (K : am_K) : List (ClassId × FieldType) := [(am_cA K 0, .int), (am_cA K 1, .boolean), (am_cA K 2, .long), (am_cA K 3, .object "AlwaysAhead$Shelf"), (am_cA K 4, .array .long), (am_cA K 5, .array .int), (am_cA K 6, .array .boolean)]
def am_R (d : Nat) : Room := { frames := d, cells := 0, slots := 0, locals := 60 * d }
def am_tw (mi : am_Mi) : List Cond := .code mi.2.1 mi.2.2.1 mi.2.2.2.1 mi.2.2.2.2 :: am_T
def am_Q (K : am_K) (post : Option am_V → am_M → Prop) : Array Value → State → Outcome → State → Prop := fun _ st oc t =>
  (∃ (r : Option am_V) (M : am_M), oc = .returned (r.map (am_v K)) ∧ post r M ∧ (∀ v ∈ r, am_vk K v) ∧ va_P (am_D K) vwCl (am_ws K M) t.heap) ∧ va_F (am_A K) st t
def am_Pc (K : am_K) (as : List am_V) (M : am_M) : Array Value → State → Prop := va_Pc (as.map (am_v K)) (fun U => am_ok K ∧ (∀ v ∈ as, am_vk K v) ∧ va_P (am_D K) vwCl (am_ws K M) U.heap ∧ va_K (am_D K) vwCl (am_tys K) U ∧ am_X K U)
/-- a method's contract -/
def am_Met (K : am_K) (d : Nat) (mi : am_Mi) (as : List am_V) (M : am_M) (post : Option am_V → am_M → Prop) : Prop := Met (am_l K) mi.2.1 (am_tw mi) (am_R d) (am_Pc K as M) (am_Q K post) 0 0 (am_A K)
/-- what is the same all along a call -/
def am_I (K : am_K) (mi : am_Mi) (p : Program) (s : State) (m : MethodId) (args : Array Value) (meth : Method) (c : Code) : Prop :=
  p.tables.exec = Jvm.exec ∧ c.code = mi.2.2.1 ∧ meth.sig.returnType = mi.2.2.2.2 ∧ c.maxLocals = mi.2.2.2.1 ∧ s.vm.findClass mi.1 = some m.cls ∧ (∀ w ∈ am_T, w.before args s = true) ∧ meth.locks = false ∧ va_K (am_D K) vwCl (am_tys K) s ∧ am_X K s
def am_ls (K : am_K) (ls : List (Nat × am_V)) : List (Nat × Value) := ls.map (fun q => (q.1, am_v K q.2))
def am_W (K : am_K) (d : Nat) (mi : am_Mi) (pc : Nat) (ls : List (Nat × am_V)) (st : List am_V) (M : am_M) (post : Option am_V → am_M → Prop) : Prop :=
  ∀ (p : Program) (e : Env) (s : State) (m : MethodId) (args : Array Value) (below : List Frame) (meth : Method) (c : Code) (H : Heap) (locs : List Loc) (la : Array Slot),
    am_ok K → am_I K mi p s m args meth c → va_P (am_D K) vwCl (am_ws K M) H → va_S (am_A K) s.heap H locs → lv_has la mi.2.2.2.1 (am_ls K ls) → (∀ q ∈ ls, am_vk K q.2) → (∀ v ∈ st, am_vk K v) →
    W p (am_l K) e (am_R d) s m args below meth c H locs 0 0 (MQ below (am_Q K post) args s 0 0 (am_A K)) (F0 m pc la (st.map (am_v K)))

theorem am_Z_next {C n d : String} {v : Value} {A : Nat → Prop} {s U : State} {locs : List Loc} (hW : s.WarmedH U.vm) (hS : va_S A s.heap U.heap locs) (h : va_Z C n d v A s s.heap) : va_Z C n d v A U U.heap := va_Z.moved hW.alike (h.kept hS.2.1)
theorem am_T_next {ty : FieldType} {t N : Nat} {f : Nat → Value} {A : Nat → Prop} {s U : State} {locs : List Loc} (hW : s.WarmedH U.vm) (hS : va_S A s.heap U.heap locs) (h : va_T ty t N f A s s.heap) : va_T ty t N f A U U.heap := va_T.moved hW.alike (h.kept hS.2.1)
theorem am_X_next {K : am_K} {s U : State} {locs : List Loc} (hW : s.WarmedH U.vm) (hS : va_S (am_A K) s.heap U.heap locs) (h : am_X K s) : am_X K U := by
  obtain ⟨h1, h2, h3, h4, h5, h6, h7, h8, h9, a1, a2, a3, a4, a5, a6, a7, a8⟩ := h
  exact ⟨va_Nw.warmM hW h1, va_Nw.warmM hW h2, am_Z_next hW hS h3, am_T_next hW hS h4, am_Z_next hW hS h5, am_T_next hW hS h6, am_Z_next hW hS h7, va_Zq.moved hW.alike (h8.kept hS.2.1), vk_S.moved hW.alike (h9.kept hS.2.1), vk_R.warm hW a1, vk_R.warm hW a2, vk_R.warm hW a3, vk_R.warm hW a4, vk_R.warm hW a5, vk_R.warm hW a6, vk_R.warm hW a7, vk_R.warm hW a8⟩
theorem am_X_call {K : am_K} {U : State} (g : JFrame) (mk : MethodId) (a : Array Value) (h : am_X K U) : am_X K (U.calling g mk a) := by
  obtain ⟨h1, h2, h3, h4, h5, h6, h7, h8, h9, a1, a2, a3, a4, a5, a6, a7, a8⟩ := h
  have hv : U.vm.Alike (U.calling g mk a).vm := Vm.Alike.refl U.vm
  exact ⟨va_Nw.same rfl rfl h1, va_Nw.same rfl rfl h2, va_Z.moved hv h3, va_T.moved hv h4, va_Z.moved hv h5, va_T.moved hv h6, va_Z.moved hv h7, va_Zq.moved hv h8, vk_S.moved hv h9, vk_R.same rfl a1, vk_R.same rfl a2, vk_R.same rfl a3, vk_R.same rfl a4, vk_R.same rfl a5, vk_R.same rfl a6, vk_R.same rfl a7, vk_R.same rfl a8⟩
/-! places -/
theorem am_place {K : am_K} {q : am_L} (h : q ∈ am_dom K) : ∃ k : Nat, (am_dom K)[k]? = some q := List.getElem?_of_mem h
theorem am_wsK {K : am_K} {q : am_L} {k : Nat} (M : am_M) (h : (am_dom K)[k]? = some q) : (am_ws K M)[k]? = some (am_ad K q, am_e K M q) := by
  unfold am_ws
  rw [List.getElem?_map, h]
  rfl
theorem am_wsG {K : am_K} {M : am_M} {k : Nat} {x : Nat × va_E} (h : (am_ws K M)[k]? = some x) : ∃ q, (am_dom K)[k]? = some q ∧ x = (am_ad K q, am_e K M q) := by
  unfold am_ws at h
  rw [List.getElem?_map] at h
  cases hq : (am_dom K)[k]? with
  | none => rw [hq] at h; cases h
  | some q => rw [hq] at h; cases h; exact ⟨q, rfl, rfl⟩
theorem am_wsD {K : am_K} (hK : am_ok K) (M : am_M) : va_D (am_A K) (am_ws K M) := by
  refine ⟨fun i j x y hi hj hxy => ?_, fun k x hk => ?_⟩
  · obtain ⟨q, hq, rfl⟩ := am_wsG hi
    obtain ⟨r, hr, rfl⟩ := am_wsG hj
    have e : q = r := hK.2.1 q (List.mem_of_getElem? hq) r (List.mem_of_getElem? hr) hxy
    subst e
    exact (List.getElem?_inj (List.getElem?_eq_some_iff.mp hq).1 hK.1).mp (hq.trans hr.symm)
  · obtain ⟨q, hq, rfl⟩ := am_wsG hk
    exact ⟨q, List.mem_of_getElem? hq, rfl⟩
theorem am_wsS {K : am_K} (hK : am_ok K) {M M' : am_M} {q : am_L} {k : Nat} {e : va_E} (hk : (am_dom K)[k]? = some q) (he : am_e K M' q = e) (ho : ∀ r, r ≠ q → am_e K M' r = am_e K M r) : (am_ws K M).set k (am_ad K q, e) = am_ws K M' := by
  have hl := (List.getElem?_eq_some_iff.mp hk).1
  refine List.ext_getElem? fun i => ?_
  by_cases hi : k = i
  · subst hi
    rw [List.getElem?_set_self (by unfold am_ws; rw [List.length_map]; exact hl), am_wsK M' hk, he]
  · rw [List.getElem?_set_ne hi]
    unfold am_ws
    rw [List.getElem?_map, List.getElem?_map]
    cases hr : (am_dom K)[i]? with
    | none => rfl
    | some r =>
      have hne : r ≠ q := fun e => hi ((List.getElem?_inj hl hK.1).mp (hk.trans (by rw [hr, e])))
      show some (am_ad K r, am_e K M r) = some (am_ad K r, am_e K M' r)
      rw [ho r hne]
theorem am_e_cong {K : am_K} {M M' : am_M} {q : am_L} (h1 : ∀ j, M'.1 q.1 q.2.1 q.2.2 j = M.1 q.1 q.2.1 q.2.2 j) (h2 : ∀ j, M'.2 q.1 q.2.1 q.2.2 j = M.2 q.1 q.2.1 q.2.2 j) : am_e K M' q = am_e K M q := by
  have e1 : (fun j => M'.1 q.1 q.2.1 q.2.2 j) = (fun j => M.1 q.1 q.2.1 q.2.2 j) := funext h1
  have e2 : (fun j => M'.2 q.1 q.2.1 q.2.2 j) = (fun j => M.2 q.1 q.2.1 q.2.2 j) := funext h2
  have e3 : ∀ j f, am_fv K M' q j f = am_fv K M q j f := by
    intro j f
    unfold am_fv
    split <;> simp only [h1, h2]
  unfold am_e
  rw [e1, e2]
  simp only [e3]
/-! writing -/
def am_si (M : am_M) (k o i j : Nat) (v : Int32) : am_M := (fun k' o' i' j' => if k' = k ∧ o' = o ∧ i' = i ∧ j' = j then v else M.1 k' o' i' j', M.2)
def am_sl (M : am_M) (k o i j : Nat) (v : Int64) : am_M := (M.1, fun k' o' i' j' => if k' = k ∧ o' = o ∧ i' = i ∧ j' = j then v else M.2 k' o' i' j')
theorem am_si_self (M : am_M) (k o i j : Nat) (v : Int32) : (am_si M k o i j v).1 k o i j = v := by simp [am_si]
theorem am_si_ne {M : am_M} {k o i j k' o' i' j' : Nat} {v : Int32} (h : ¬ (k' = k ∧ o' = o ∧ i' = i ∧ j' = j)) : (am_si M k o i j v).1 k' o' i' j' = M.1 k' o' i' j' := by simp [am_si, h]
theorem am_sl_self (M : am_M) (k o i j : Nat) (v : Int64) : (am_sl M k o i j v).2 k o i j = v := by simp [am_sl]
theorem am_sl_ne {M : am_M} {k o i j k' o' i' j' : Nat} {v : Int64} (h : ¬ (k' = k ∧ o' = o ∧ i' = i ∧ j' = j)) : (am_sl M k o i j v).2 k' o' i' j' = M.2 k' o' i' j' := by simp [am_sl, h]
theorem am_si_e {K : am_K} {M : am_M} {k o i j : Nat} {v : Int32} {r : am_L} (h : r ≠ (k, o, i)) : am_e K (am_si M k o i j v) r = am_e K M r :=
  am_e_cong (fun j' => am_si_ne (fun z => h (by rw [← z.1, ← z.2.1, ← z.2.2.1]))) (fun _ => rfl)
theorem am_sl_e {K : am_K} {M : am_M} {k o i j : Nat} {v : Int64} {r : am_L} (h : r ≠ (k, o, i)) : am_e K (am_sl M k o i j v) r = am_e K M r :=
  am_e_cong (fun _ => rfl) (fun j' => am_sl_ne (fun z => h (by rw [← z.1, ← z.2.1, ← z.2.2.1])))
theorem am_e_obj {K : am_K} {M : am_M} {k o i ci N : Nat} {f : Nat → am_F} (hs : am_sh k = .inl (ci, N, f)) : am_e K M (k, o, i) = .inr (ci, (List.range N).map (fun j => am_fv K M (k, o, i) j (f j))) := by
  unfold am_e
  simp only [hs]
theorem am_e_int {K : am_K} {M : am_M} {k o i n : Nat} (hs : am_sh k = .inr (.inl (0, n))) : am_e K M (k, o, i) = .inl (am_cA K 0, n, .inl (fun j => M.1 k o i j)) := by
  unfold am_e
  simp only [hs]
theorem am_e_bool {K : am_K} {M : am_M} {k o i n : Nat} (hs : am_sh k = .inr (.inl (1, n))) : am_e K M (k, o, i) = .inl (am_cA K 1, n, .inl (fun j => M.1 k o i j)) := by
  unfold am_e
  simp only [hs]
theorem am_e_long {K : am_K} {M : am_M} {k o i n : Nat} (hs : am_sh k = .inr (.inl (2, n))) : am_e K M (k, o, i) = .inl (am_cA K 2, n, .inr (.inl (fun j => M.2 k o i j))) := by
  unfold am_e
  simp only [hs]
theorem am_e_ref {K : am_K} {M : am_M} {k o i t n : Nat} {g : Nat → Nat → am_L} (hs : am_sh k = .inr (.inr (t, n, g))) : am_e K M (k, o, i) = .inl (am_cA K t, n, .inr (.inr (.inr (.inr (fun j => some (am_ad K (g o j))))))) := by
  unfold am_e
  simp only [hs]
theorem am_rg {N j : Nat} {f : Nat → Value} (h : j < N) : ((List.range N).map f)[j]? = some (f j) := by
  rw [List.getElem?_map, List.getElem?_range h]
  rfl
theorem am_rgS {N j : Nat} {f g : Nat → Value} {v : Value} (hv : g j = v) (ho : ∀ i, i ≠ j → g i = f i) : ((List.range N).map f).set j v = (List.range N).map g := by
  refine List.ext_getElem? fun i => ?_
  by_cases hi : j = i
  · subst hi
    by_cases hl : j < N
    · rw [List.getElem?_set_self (by rw [List.length_map, List.length_range]; exact hl), am_rg hl, hv]
    · rw [List.getElem?_eq_none (by rw [List.length_set, List.length_map, List.length_range]; omega), List.getElem?_eq_none (by rw [List.length_map, List.length_range]; omega)]
  · rw [List.getElem?_set_ne hi, List.getElem?_map, List.getElem?_map]
    cases hr : (List.range N)[i]? with
    | none => rfl
    | some x =>
      have hl : i < N := by
        have := (List.getElem?_eq_some_iff.mp hr).1
        rwa [List.length_range] at this
      rw [List.getElem?_range hl] at hr
      cases hr
      show some _ = some _
      rw [ho i (fun e => hi e.symm)]
theorem am_in {K : am_K} {k o i : Nat} (hk : k < 9000) (h : am_vk K (.inr (.inr (k, o, i)))) : (k, o, i) ∈ am_dom K := by
  rcases h with h | h
  · exact h
  · exact absurd hk (Nat.not_lt.mpr h)
