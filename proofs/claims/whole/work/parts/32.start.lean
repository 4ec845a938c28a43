/-! from the law's entry to the small machine -/
theorem st_prim {ty : FieldType} {args : Array Value} {s : State} (h : (Cond.arrayClass ty).before args s = true) : ∃ cA, ArrOfT s cA ty ∧ s.vm.findClass ("[" ++ ty.toString) = some cA := by
  obtain ⟨c, k, comp, h1, h2, h3⟩ := Cond.arrayClass_spec (o := none) (idx := []) h
  exact ⟨c, fun n z => ⟨fun k h => (by cases h), k, h2, comp, h3⟩, h1⟩
theorem st_obj {C : String} {s : State} (h : va_AO C s) : ∃ cA, ArrOfT s cA (.object C) ∧ va_RA s cA (.object C) := by
  obtain ⟨comp, c, k, h1, h2, h3, h4, h5⟩ := Cond.arrayOver_spec h
  exact ⟨c, fun n z => ⟨fun k h => (by cases h), k, h3, comp, h4⟩, k, comp, h3, h4, h1, h5⟩
theorem st_arr {ty : FieldType} {s : State} (h : va_AOA ty s) : ∃ cA, ArrOfT s cA (.array ty) ∧ s.vm.findClass ("[" ++ (FieldType.array ty).toString) = some cA := by
  obtain ⟨comp, c, k, h1, h2, h3, h4, h5⟩ := va_AOA.spec h
  exact ⟨c, fun n z => ⟨fun k h => (by cases h), k, h3, comp, h4⟩, h5⟩
theorem st_tab {args : Array Value} {s : State} {n : String} {N : Nat} {f : Nat → Int32} {A : Nat → Prop} (hN : N < 2 ^ 31) (hA : ∀ a : Nat, a < s.heap.size → ¬ A a) (hl : (Cond.laysStatic "AlwaysAhead" n "[I").before args s = true) (hini : (Cond.initialized "AlwaysAhead").before args s = true) (h1 : (Cond.arrayOf (.static "AlwaysAhead" n "[I") .int).before args s = true) (h2 : (Cond.eq (.length (.static "AlwaysAhead" n "[I")) (.int (Int32.ofNat N))).before args s = true) (h3 : ∀ j : Nat, j < N → (Cond.eq (.elem (.static "AlwaysAhead" n "[I") (.int (Int32.ofNat j))) (.int (f j))).before args s = true) : ∃ t : Nat, va_Z "AlwaysAhead" n "[I" (.ref t) A s s.heap ∧ va_T .int t N (fun j => .int (f j)) A s s.heap := by
  obtain ⟨t, ht, hT⟩ := va_Tof (f := fun j => .int (f j)) (A := A) hN h1 (va_eqt h2) (fun j hj => va_eqt (h3 j hj)) hA
  exact ⟨t, va_Zof hl hini ht hA, hT⟩
theorem st_same {args : Array Value} {s : State} {t u : Term} {a : Nat} (h : (Cond.eq t u).before args s = true) (ht : t.eval args s none [] s = some (.ref a)) : u.eval args s none [] s = some (.ref a) := by
  cases hv : u.eval args s none [] s with
  | none => simp [Cond.before, Cond.holds, Cond.value, ht, hv] at h
  | some v =>
    cases v <;> simp [Cond.before, Cond.holds, Cond.value, ht, hv] at h ⊢
    first | exact h.symm | exact h
theorem st_words {args : Array Value} {s : State} (hts : ∀ w ∈ lw_tbl, w.before args s = true) (w : Cond) (hw : w ∈ lw_tbl) : w.before args s = true := hts w hw
theorem st_Fw {args : Array Value} {s : State} (hts : ∀ w ∈ lw_tbl, w.before args s = true) : am_Fw s :=
  ⟨va_AOA.of (hts (.arrayOver (.array .long)) (by decide +kernel)), va_AOA.of (hts (.arrayOver (.array .int)) (by decide +kernel)), va_AOA.of (hts (.arrayOver (.array .boolean)) (by decide +kernel)), va_AO.of (hts (.arrayOver (.object "AlwaysAhead$Shelf")) (by decide +kernel)), va_Nw.of rfl (hts (.methodLinkNest RX4 11 yX1_init "AlwaysAhead") (by decide +kernel)), va_Nw.of rfl (hts (.methodLinkNest RX4 24 yX0_init "AlwaysAhead") (by decide +kernel)), va_Nw.of rfl (hts (.methodLinkNest RX4 31 yX3_init "AlwaysAhead") (by decide +kernel)), va_Nw.of rfl (hts (.methodLinkNest RX4 49 yX2_init "AlwaysAhead") (by decide +kernel))⟩
/-- classes' numbers -/
theorem st_K (l : Launch) {args : Array Value} {s : State} (hts : ∀ w ∈ lw_tbl, w.before args s = true) : ∃ (D : va_G) (cA : Nat → ClassId), va_K D vwCl (am_tys (am_mk l D cA (fun _ => 0) [])) s := by
  have hT : ∀ w ∈ am_T, w.before args s = true := fun w hw => hts w (List.mem_filter.mp hw).1
  obtain ⟨c0, i0, k0⟩ := u_known (C := RX0) (T := TX0) (N := 8) (n := 8) hT fi_X0 (hts (.instantiable RX0 8) (by decide +kernel))
  obtain ⟨c1, i1, k1⟩ := u_known (C := RX1) (T := TX1) (N := 14) (n := 14) hT fi_X1 (hts (.instantiable RX1 14) (by decide +kernel))
  obtain ⟨c2, i2, k2⟩ := u_known (C := RX2) (T := TX2) (N := 4) (n := 4) hT fi_X2 (hts (.instantiable RX2 4) (by decide +kernel))
  obtain ⟨c3, i3, k3⟩ := u_known (C := RX3) (T := TX3) (N := 6) (n := 6) hT fi_X3 (hts (.instantiable RX3 6) (by decide +kernel))
  obtain ⟨c4, i4, k4⟩ := u_known (C := RX4) (T := TX4) (N := 9) (n := 9) hT fi_X4 (hts (.instantiable RX4 9) (by decide +kernel))
  obtain ⟨c5, i5, k5⟩ := u_known (C := RX5) (T := TX5) (N := 40) (n := 40) hT fi_X5 (hts (.instantiable RX5 40) (by decide +kernel))
  have hFw := st_Fw hts
  obtain ⟨a0, b0, d0⟩ := st_prim (hts (.arrayClass .int) (by decide +kernel))
  obtain ⟨a1, b1, d1⟩ := st_prim (hts (.arrayClass .boolean) (by decide +kernel))
  obtain ⟨a2, b2, d2⟩ := st_prim (hts (.arrayClass .long) (by decide +kernel))
  obtain ⟨a3, b3, d3⟩ := st_obj hFw.2.2.2.1
  obtain ⟨a4, b4, d4⟩ := st_arr hFw.1
  obtain ⟨a5, b5, d5⟩ := st_arr hFw.2.1
  obtain ⟨a6, b6, d6⟩ := st_arr hFw.2.2.1
  refine ⟨(fun k => [c0, c1, c2, c3, c4, c5].getD k c0, fun k => [i0, i1, i2, i3, i4, i5].getD k i0), fun t => [a0, a1, a2, a3, a4, a5, a6].getD t a0, fun k q hq => ?_, fun k q hq => ?_⟩
  · match k, hq with
    | 0, hq => cases hq; exact k0
    | 1, hq => cases hq; exact k1
    | 2, hq => cases hq; exact k2
    | 3, hq => cases hq; exact k3
    | 4, hq => cases hq; exact k4
    | 5, hq => cases hq; exact k5
    | k + 6, hq => simp [vwCl] at hq
  · match k, hq with
    | 0, hq => cases hq; exact ⟨b0, d0⟩
    | 1, hq => cases hq; exact ⟨b1, d1⟩
    | 2, hq => cases hq; exact ⟨b2, d2⟩
    | 3, hq => cases hq; exact ⟨b3, d3⟩
    | 4, hq => cases hq; exact ⟨b4, d4⟩
    | 5, hq => cases hq; exact ⟨b5, d5⟩
    | 6, hq => cases hq; exact ⟨b6, d6⟩
    | k + 7, hq => simp [am_tys] at hq
def st_tm (i : Nat) : Term := match i with
  | 0 => .string RX3 32
  | 1 => .string RX3 41
  | 2 => .string RX3 46
  | _ => .string RX3 51
theorem st_4 {P : Nat → Prop} (h0 : P 0) (h1 : P 1) (h2 : P 2) (h3 : P 3) : ∀ i : Nat, i < 4 → P i := by
  intro i hi
  match i, hi with
  | 0, _ => exact h0
  | 1, _ => exact h1
  | 2, _ => exact h2
  | 3, _ => exact h3
  | i + 4, h => omega
/-- what stands at the start, as the Statement gives it -/
theorem st_X (l : Launch) (D : va_G) (cA : Nat → ClassId) {b : Nat} {s : State} (hts : ∀ w ∈ lw_tbl, w.before #[Value.ref b] s = true) (hgv : (Jvm.Cond.and given_1 narrow_1).before #[Value.ref b] s = true) : ∃ ad : am_L → Nat, ad (9200, 0, 0) = b ∧ am_X (am_mk l D cA ad []) s := by
  have hf := flat_of_before _ hgv
  have hA : ∀ a : Nat, a < s.heap.size → ¬ (fun _ : Nat => False) a := fun _ _ h => h
  obtain ⟨t0, z0, y0⟩ := st_tab (n := "KIND_ABOVE") (N := 7) (f := fun j => am_KA.getD j 0) (by decide) hA (hts _ (by decide +kernel)) (hts _ (by decide +kernel)) (hf _ (by decide +kernel)) (hf _ (by decide +kernel)) (fun j hj => by
    match j, hj with
    | 0, _ => exact hf _ (by decide +kernel)
    | 1, _ => exact hf _ (by decide +kernel)
    | 2, _ => exact hf _ (by decide +kernel)
    | 3, _ => exact hf _ (by decide +kernel)
    | 4, _ => exact hf _ (by decide +kernel)
    | 5, _ => exact hf _ (by decide +kernel)
    | 6, _ => exact hf _ (by decide +kernel)
    | j + 7, h => omega)
  obtain ⟨t1, z1, y1⟩ := st_tab (n := "ORDERS") (N := 5) (f := fun j => am_OR.getD j 0) (by decide) hA (hts _ (by decide +kernel)) (hts _ (by decide +kernel)) (hf _ (by decide +kernel)) (hf _ (by decide +kernel)) (fun j hj => by
    match j, hj with
    | 0, _ => exact hf _ (by decide +kernel)
    | 1, _ => exact hf _ (by decide +kernel)
    | 2, _ => exact hf _ (by decide +kernel)
    | 3, _ => exact hf _ (by decide +kernel)
    | 4, _ => exact hf _ (by decide +kernel)
    | j + 5, h => omega)
  have hcs := va_Zof (C := "java/lang/String") (n := "COMPACT_STRINGS") (d := "Z") (hts _ (by decide +kernel)) (hts _ (by decide +kernel)) (va_eqt (hf (.eq (.static "java/lang/String" "COMPACT_STRINGS" "Z") (.int 1)) (by decide +kernel))) hA
  have hsi := va_Zqof (C := "jdk/internal/util/Preconditions") (n := "SIOOBE_FORMATTER") (d := "Ljava/util/function/BiFunction;") (hts _ (by decide +kernel)) (hts _ (by decide +kernel)) (hf _ (by decide +kernel)) hA
  obtain ⟨adK, adV, hS, hev⟩ := vk_Sof (N := 4) (tm := st_tm) (len := am_sln) (byt := am_sby) (A := fun _ => False) (st_4 (by decide) (by decide) (by decide) (by decide)) (st_4 (hf _ (by decide +kernel)) (hf _ (by decide +kernel)) (hf _ (by decide +kernel)) (hf _ (by decide +kernel))) (st_4 (hf _ (by decide +kernel)) (hf _ (by decide +kernel)) (hf _ (by decide +kernel)) (hf _ (by decide +kernel))) (st_4 (hf _ (by decide +kernel)) (hf _ (by decide +kernel)) (hf _ (by decide +kernel)) (hf _ (by decide +kernel))) (st_4 (hf _ (by decide +kernel)) (hf _ (by decide +kernel)) (hf _ (by decide +kernel)) (hf _ (by decide +kernel)))
    (st_4 (st_4 (hf _ (by decide +kernel)) (hf _ (by decide +kernel)) (hf _ (by decide +kernel)) (hf _ (by decide +kernel))) (st_4 (hf _ (by decide +kernel)) (hf _ (by decide +kernel)) (hf _ (by decide +kernel)) (hf _ (by decide +kernel))) (st_4 (hf _ (by decide +kernel)) (hf _ (by decide +kernel)) (hf _ (by decide +kernel)) (hf _ (by decide +kernel))) (st_4 (hf _ (by decide +kernel)) (hf _ (by decide +kernel)) (hf _ (by decide +kernel)) (hf _ (by decide +kernel))))
    (fun i j hi hj => (st_4 (P := fun i => ∀ j : Nat, j < 4 → i ≠ j → (Cond.not (Cond.eq (st_tm i) (st_tm j))).before #[Value.ref b] s = true ∨ (Cond.not (Cond.eq (st_tm j) (st_tm i))).before #[Value.ref b] s = true) (st_4 (fun h => absurd rfl h) (fun _ => Or.inl (hf _ (by decide +kernel))) (fun _ => Or.inl (hf _ (by decide +kernel))) (fun _ => Or.inl (hf _ (by decide +kernel)))) (st_4 (fun _ => Or.inr (hf _ (by decide +kernel))) (fun h => absurd rfl h) (fun _ => Or.inl (hf _ (by decide +kernel))) (fun _ => Or.inl (hf _ (by decide +kernel)))) (st_4 (fun _ => Or.inr (hf _ (by decide +kernel))) (fun _ => Or.inr (hf _ (by decide +kernel))) (fun h => absurd rfl h) (fun _ => Or.inl (hf _ (by decide +kernel)))) (st_4 (fun _ => Or.inr (hf _ (by decide +kernel))) (fun _ => Or.inr (hf _ (by decide +kernel))) (fun _ => Or.inr (hf _ (by decide +kernel))) (fun h => absurd rfl h))) i hi j hj) hA
  refine ⟨fun r => if r.1 = 9200 then b else if r.1 = 9000 then t0 else if r.1 = 9001 then t1 else if r.1 = 9100 then adK r.2.1 else adV r.2.1, rfl, ?_⟩
  have e1 := hev 0 (by decide)
  have e2 := hev 1 (by decide)
  have e3 := hev 2 (by decide)
  have e4 := hev 3 (by decide)
  have hN : ∀ q, am_A (am_mk l D cA (fun r => if r.1 = 9200 then b else if r.1 = 9000 then t0 else if r.1 = 9001 then t1 else if r.1 = 9100 then adK r.2.1 else adV r.2.1) []) q → (fun _ : Nat => False) q := fun q ⟨r, hr, _⟩ => absurd hr List.not_mem_nil
  exact ⟨va_Nw.of rfl (hts (.methodLinkNest RX2 31 yX4_isWithin "AlwaysAhead") (by decide +kernel)), va_Nw.of rfl (hts (.methodLinkNest RX0 127 yX4_isWithin "AlwaysAhead") (by decide +kernel)), z0.narrow hN, y0.narrow hN, z1.narrow hN, y1.narrow hN, hcs.narrow hN, hsi.narrow hN, hS.narrow hN,
    vk_R.of (hts (.stringRef RX3 32 "heap") (by decide +kernel)) e1, vk_R.of (hts (.stringRef RX3 41 "fact") (by decide +kernel)) e2, vk_R.of (hts (.stringRef RX3 46 "read") (by decide +kernel)) e3, vk_R.of (hts (.stringRef RX3 51 "swap") (by decide +kernel)) e4,
    vk_R.of (hts (.stringRef RX5 212 "heap") (by decide +kernel)) (st_same (hf (.eq (.string RX3 32) (.string RX5 212)) (by decide +kernel)) e1), vk_R.of (hts (.stringRef RX5 231 "fact") (by decide +kernel)) (st_same (hf (.eq (.string RX3 41) (.string RX5 231)) (by decide +kernel)) e2), vk_R.of (hts (.stringRef RX5 226 "read") (by decide +kernel)) (st_same (hf (.eq (.string RX3 46) (.string RX5 226)) (by decide +kernel)) e3), vk_R.of (hts (.stringRef RX5 221 "swap") (by decide +kernel)) (st_same (hf (.eq (.string RX3 51) (.string RX5 221)) (by decide +kernel)) e4)⟩
/-- from the entry, for every script of at most 384 ints, given what is owed of the calls -/
theorem st_start {G : Bool → Bool → am_M → Prop} (hG : ok_all G) (h0 : G false false (am_rst am_M0 0)) {p : Program} {e : Env} {s : State} {m : MethodId} {below : List Frame} {meth : Method} {c : Code} (l : Launch) {b L : Nat} {xs : Nat → Int32} (hL : L ≤ 384) (C0 : lw_At p s m meth c b L xs) : W p l e room_1 s m #[Value.ref b] below meth c s.heap [] 0 0 (lw_Z below #[Value.ref b] s) (entryFrame m ([Value.ref b] : List Value).toArray 4) := by
  obtain ⟨hx, hb, hr, hml, hown, hts, hX, hbl, hlocks, hgv⟩ := id C0
  have hT : ∀ w ∈ am_T, w.before #[Value.ref b] s = true := fun w hw => hts w (List.mem_filter.mp hw).1
  obtain ⟨D, cA, hK⟩ := st_K l hts
  obtain ⟨ad, had, hXX⟩ := st_X l D cA hts hgv
  have hl := lv_entry ([.ref b]) (n := 4) (Nat.le_of_ble_eq_true rfl)
  rw [lg_entry_eq]
  generalize (lg_sl ([.ref b]) ++ List.replicate (4 - (lg_sl ([.ref b])).length) Slot.unset).toArray = la at hl ⊢
  have hl : lv_has la 4 [(0, .ref b)] := hl
  have hTb : va_T .int b L (fun j => .int (xs j)) (fun q => s.heap.size ≤ q) s s.heap := by
    obtain ⟨scr, h1, h2, h3, h4, h5⟩ := hX
    exact ⟨scr, h1, h2, h3, by rw [h4]; exact Nat.le_refl _, by rw [h4], h5, Nat.not_le.mpr hbl⟩
  have hF : lw_F (p, e, room_1, s, m, #[Value.ref b], below, meth, c, lw_Z below #[Value.ref b] s, fun q => s.heap.size ≤ q) b L xs := ⟨rfl, rfl, st_Fw hts, hTb⟩
  have hg := lw_begin (K := am_mk l D cA ad []) (M := am_M0) hG h0 hF rfl rfl hL rfl had
  refine hg s.heap [] la ⟨List.nodup_nil, fun p hp => absurd hp List.not_mem_nil, fun p hp => absurd hp List.not_mem_nil, fun p hp => absurd hp List.not_mem_nil⟩ ⟨hx, hb, hr, hml, hown, hT, hlocks, hK, hXX⟩ (va_P_mem.mpr fun x hx => absurd hx List.not_mem_nil) va_S.rf (fun a ⟨r, hr, _⟩ => absurd hr List.not_mem_nil) ?_ ?_ (fun v hv => absurd hv List.not_mem_nil)
  · show lv_has la 4 [(0, .ref (ad (9200, 0, 0)))]
    rw [had]
    exact hl
  · intro q hq
    rw [List.mem_singleton.mp hq]
    exact Or.inr (by decide)
