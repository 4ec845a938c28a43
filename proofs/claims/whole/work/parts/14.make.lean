/-! making: the world grows, named place by named place -/
def am_ext (K : am_K) (p : am_L) (q : Nat) : am_K := (K.1, K.2.1, fun r => if r = p then q else am_ad K r, K.2.2.2.1, K.2.2.2.2.1, am_dom K ++ [p])
def am_extR (K : am_K) (kr n : Nat) (f : Nat → Nat) : am_K := (K.1, K.2.1, fun r => if r.1 = kr ∧ r.2.1 = 0 ∧ r.2.2 < n then f r.2.2 else am_ad K r, K.2.2.2.1, K.2.2.2.2.1, am_dom K ++ (List.range n).map (fun i => (kr, 0, i)))
theorem am_sh_kind : ∀ q ∈ am_shT, ∀ t n g, q.2 = .inr (.inr (t, n, g)) → ∀ o j, (g o j).1 = (g 0 0).1 := by
  intro q hq t n g h o j
  simp only [am_shT, List.mem_cons, List.not_mem_nil, or_false] at hq
  rcases hq with rfl | rfl | rfl | rfl | rfl | rfl | rfl | rfl | rfl | rfl | rfl | rfl | rfl | rfl | rfl | rfl | rfl | rfl | rfl | rfl | rfl | rfl | rfl | rfl | rfl | rfl | rfl | rfl | rfl | rfl | rfl | rfl | rfl | rfl | rfl | rfl | rfl | rfl | rfl | rfl | rfl | rfl | rfl | rfl | rfl | rfl | rfl | rfl | rfl | rfl | rfl | rfl | rfl | rfl | rfl | rfl <;> first | (cases h; rfl) | cases h
theorem am_look_in (k : Nat) : ∀ (l : List (Nat × am_S)), (∃ q ∈ l, am_look k l = q.2) ∨ am_look k l = .inr (.inl (0, 0))
  | [] => Or.inr rfl
  | q :: l => by
    unfold am_look
    cases Nat.beq q.1 k with
    | true => exact Or.inl ⟨q, List.mem_cons_self, rfl⟩
    | false => exact (am_look_in k l).elim (fun ⟨r, h1, h2⟩ => Or.inl ⟨r, List.mem_cons_of_mem _ h1, h2⟩) Or.inr
theorem am_kind {k t n : Nat} {g : Nat → Nat → am_L} (h : am_sh k = .inr (.inr (t, n, g))) (o j : Nat) : (g o j).1 = (g 0 0).1 := by
  rcases am_look_in k am_shT with ⟨q, hq, e⟩ | e
  · exact am_sh_kind q hq t n g (e.symm.trans h) o j
  · rw [am_sh, e] at h; cases h
/-- whether p is none of r's own -/
def am_apart (r p : am_L) : Bool := match am_sh r.1 with
  | .inl s => (List.range s.2.1).all (fun j => match s.2.2 j with | .inr c => !(((c.1, c.2.getD r.2.1, 0) : am_L) == p) | .inl _ => true)
  | .inr (.inl _) => true
  | .inr (.inr a) => !((a.2.2 0 0).1 == p.1)
theorem am_e_ad {K K' : am_K} {M : am_M} {r : am_L} (hc : am_cA K' = am_cA K) (ho : am_opq K' = am_opq K) (h1 : ∀ ci N f j c, am_sh r.1 = .inl (ci, N, f) → j < N → f j = .inr c → am_ad K' (c.1, c.2.getD r.2.1, 0) = am_ad K (c.1, c.2.getD r.2.1, 0)) (h2 : ∀ t n g, am_sh r.1 = .inr (.inr (t, n, g)) → ∀ j, am_ad K' (g r.2.1 j) = am_ad K (g r.2.1 j)) : am_e K' M r = am_e K M r := by
  unfold am_e
  split
  · rename_i s hs
    refine congrArg Sum.inr (congrArg (Prod.mk s.1) (List.map_congr_left fun j hj => ?_))
    have hj' : j < s.2.1 := List.mem_range.mp hj
    unfold am_fv
    split
    · rfl
    · rfl
    · rw [ho]
    · rename_i c hcj
      rw [h1 s.1 s.2.1 s.2.2 j c hs hj' hcj]
  · rw [hc]
  · rw [hc]
  · rename_i a ha
    rw [hc]
    refine congrArg Sum.inl (congrArg (Prod.mk _) (congrArg (Prod.mk _) (congrArg Sum.inr (congrArg Sum.inr (congrArg Sum.inr (congrArg Sum.inr (funext fun j => ?_)))))))
    rw [h2 a.1 a.2.1 a.2.2 ha j]
theorem am_ext_e {K : am_K} {M : am_M} {r p : am_L} {q : Nat} (h : am_apart r p = true) : am_e (am_ext K p q) M r = am_e K M r := by
  refine am_e_ad rfl rfl (fun ci N f j c hs hj hf => ?_) (fun t n g hs j => ?_)
  · unfold am_apart at h
    rw [hs] at h
    have h1 := List.all_eq_true.mp h j (List.mem_range.mpr hj)
    simp only [hf, Bool.not_eq_true', beq_eq_false_iff_ne, ne_eq] at h1
    exact if_neg h1
  · unfold am_apart at h
    rw [hs] at h
    simp only [Bool.not_eq_true', beq_eq_false_iff_ne, ne_eq] at h
    exact if_neg (fun e => h (by rw [← e]; exact (am_kind hs _ _).symm))
/-- the same for a whole row of rows -/
def am_apartR (r : am_L) (kr : Nat) : Bool := match am_sh r.1 with
  | .inl s => (List.range s.2.1).all (fun j => match s.2.2 j with | .inr c => !(c.1 == kr) | .inl _ => true)
  | .inr (.inl _) => true
  | .inr (.inr a) => !((a.2.2 0 0).1 == kr)
theorem am_extR_e {K : am_K} {M : am_M} {r : am_L} {kr n : Nat} {f : Nat → Nat} (h : am_apartR r kr = true) : am_e (am_extR K kr n f) M r = am_e K M r := by
  refine am_e_ad rfl rfl (fun ci N g j c hs hj hf => ?_) (fun t n g hs j => ?_)
  · unfold am_apartR at h
    rw [hs] at h
    have h1 := List.all_eq_true.mp h j (List.mem_range.mpr hj)
    simp only [hf, Bool.not_eq_true', beq_eq_false_iff_ne, ne_eq] at h1
    exact if_neg (fun z => h1 z.1)
  · unfold am_apartR at h
    rw [hs] at h
    simp only [Bool.not_eq_true', beq_eq_false_iff_ne, ne_eq] at h
    exact if_neg (fun z => h (by rw [← z.1]; exact (am_kind hs _ _).symm))
theorem am_ws_ext {K : am_K} {M : am_M} {p : am_L} {q : Nat} (h : ∀ r ∈ am_dom K, r ≠ p ∧ am_apart r p = true) : am_ws (am_ext K p q) M = am_ws K M ++ [(q, am_e (am_ext K p q) M p)] := by
  show (am_dom K ++ [p]).map _ = _
  rw [List.map_append]
  refine congr (congrArg HAppend.hAppend (List.map_congr_left fun r hr => ?_)) ?_
  · show ((if r = p then q else am_ad K r), am_e (am_ext K p q) M r) = (am_ad K r, am_e K M r)
    rw [if_neg (h r hr).1, am_ext_e (h r hr).2]
  · show [((if p = p then q else am_ad K p), am_e (am_ext K p q) M p)] = _
    rw [if_pos rfl]
theorem am_ws_extR {K : am_K} {M : am_M} {kr n : Nat} {f : Nat → Nat} (h : ∀ r ∈ am_dom K, r.1 ≠ kr ∧ am_apartR r kr = true) : am_ws (am_extR K kr n f) M = am_ws K M ++ (List.range n).map (fun i => (f i, am_e (am_extR K kr n f) M (kr, 0, i))) := by
  show (am_dom K ++ (List.range n).map (fun i => (kr, 0, i))).map _ = _
  rw [List.map_append, List.map_map]
  refine congr (congrArg HAppend.hAppend (List.map_congr_left fun r hr => ?_)) (List.map_congr_left fun i hi => ?_)
  · show ((if r.1 = kr ∧ r.2.1 = 0 ∧ r.2.2 < n then f r.2.2 else am_ad K r), am_e (am_extR K kr n f) M r) = (am_ad K r, am_e K M r)
    rw [if_neg (fun z => (h r hr).1 z.1), am_extR_e (h r hr).2]
  · show ((if kr = kr ∧ 0 = 0 ∧ i < n then f i else am_ad K (kr, 0, i)), am_e (am_extR K kr n f) M (kr, 0, i)) = _
    rw [if_pos ⟨rfl, rfl, List.mem_range.mp hi⟩]
theorem va_P_mem {D : va_G} {cl : List vw_C} {ws : va_W} {H : Heap} : va_P D cl ws H ↔ ∀ x ∈ ws, va_at D cl x H := by
  constructor
  · intro h x hx
    obtain ⟨k, hk⟩ := List.getElem?_of_mem hx
    exact h k x hk
  · intro h k x hk
    exact h x (List.mem_of_getElem? hk)
/-- the two int numbers that a new object begins with -/
def am_M0 : am_M := (fun k _ _ j => if k = 1 ∧ j = 13 then 1 else if k = 2 ∧ j = 0 then -1 else if k = 5 ∧ j = 18 then 1 else 0, fun _ _ _ _ => 0)
/-- what making needs of a state: words that aren't carried as words -/
def am_Fw (U : State) : Prop := va_AOA .long U ∧ va_AOA .int U ∧ va_AOA .boolean U ∧ va_AO "AlwaysAhead$Shelf" U ∧ va_Nw (.methodLinkNest RX4 11 yX1_init "AlwaysAhead") U ∧ va_Nw (.methodLinkNest RX4 24 yX0_init "AlwaysAhead") U ∧ va_Nw (.methodLinkNest RX4 31 yX3_init "AlwaysAhead") U ∧ va_Nw (.methodLinkNest RX4 49 yX2_init "AlwaysAhead") U
theorem am_Fw_warm {s U : State} (hW : s.WarmedH U.vm) (h : am_Fw s) : am_Fw U := by
  obtain ⟨h1, h2, h3, h4, h5, h6, h7, h8⟩ := h
  exact ⟨va_AOA.moved hW.alike h1, va_AOA.moved hW.alike h2, va_AOA.moved hW.alike h3, va_AO.moved hW.alike h4, va_Nw.warmM hW h5, va_Nw.warmM hW h6, va_Nw.warmM hW h7, va_Nw.warmM hW h8⟩
theorem am_Fw_call {U : State} (g : JFrame) (mk : MethodId) (a : Array Value) (h : am_Fw U) : am_Fw (U.calling g mk a) := by
  obtain ⟨h1, h2, h3, h4, h5, h6, h7, h8⟩ := h
  have hv : U.vm.Alike (U.calling g mk a).vm := Vm.Alike.refl U.vm
  exact ⟨va_AOA.moved hv h1, va_AOA.moved hv h2, va_AOA.moved hv h3, va_AO.moved hv h4, va_Nw.same rfl rfl h5, va_Nw.same rfl rfl h6, va_Nw.same rfl rfl h7, va_Nw.same rfl rfl h8⟩
def am_mk (l : Launch) (D : va_G) (cA : Nat → ClassId) (ad : am_L → Nat) (dom : List am_L) : am_K := (l, D, ad, fun _ _ => .null, cA, dom)
def cn_Pc (l : Launch) (D : va_G) (cA : Nat → ClassId) (ci h0 sz : Nat) (df : List Value) : Array Value → State → Prop := va_Pc [.ref h0] (fun U => U.heap.size = sz ∧ va_P D vwCl [(h0, .inr (ci, df))] U.heap ∧ va_K D vwCl (am_tys (am_mk l D cA (fun _ => 0) [])) U ∧ va_D (fun _ => True) [(h0, .inr (ci, df))] ∧ am_Fw U)
def cn_Qc (l : Launch) (D : va_G) (cA : Nat → ClassId) (ci h0 sz : Nat) (df : List Value) (N : List am_L) : Array Value → State → Outcome → State → Prop := va_Qv (fun ad : am_L → Nat => ad (ci, 0, 0) = h0) (fun ad t => va_P D vwCl (am_ws (am_mk l D cA ad N) am_M0) t.heap ∧ va_D (va_A [(h0, .inr (ci, df))] sz) (am_ws (am_mk l D cA ad N) am_M0)) (va_A [(h0, .inr (ci, df))] sz)
theorem cn_blind {l : Launch} {D : va_G} {cA : Nat → ClassId} {ci h0 sz : Nat} {df : List Value} : FrameBlind (cn_Pc l D cA ci h0 sz df) := fun a U g mk q => by
  obtain ⟨q0, q1, q2, q3, q4, q5⟩ := q
  have hv : U.vm.Alike (U.calling g mk a).vm := Vm.Alike.refl U.vm
  exact ⟨q0, q1, q2, va_K.moved hv q3, q4, am_Fw_call g mk a q5⟩
