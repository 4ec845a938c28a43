/-! the world with one more reference object -/
def am_isM (k : Nat) : Bool := Nat.beq k 5 || (Nat.ble 600 k && Nat.blt k 800)
def am_rst (M : am_M) (d : Nat) : am_M := (fun k o i j => if am_isM k = true ∧ o = d then am_M0.1 k o i j else M.1 k o i j, fun k o i j => if am_isM k = true ∧ o = d then am_M0.2 k o i j else M.2 k o i j)
theorem am_rst_ws {K : am_K} {M : am_M} {d : Nat} (h : ∀ r ∈ am_dom K, ¬ (am_isM r.1 = true ∧ r.2.1 = d)) : am_ws K (am_rst M d) = am_ws K M := by
  unfold am_ws
  refine List.map_congr_left fun r hr => ?_
  rw [am_e_cong (M := M) (M' := am_rst M d) (fun j => if_neg (h r hr)) (fun j => if_neg (h r hr))]
theorem am_N5M : ∀ p ∈ am_dom_X5_init, am_isM p.1 = true := by decide +kernel
theorem am_N5ok : am_newok am_dom_X5_init = true := by decide +kernel
theorem am_N505 : ∀ p ∈ am_dom_X5_init, p.1 ≠ 505 := by decide +kernel
theorem am_N5nd : am_dom_X5_init.Nodup := by decide +kernel
theorem am_rst_M0 {M : am_M} {d : Nat} : (∀ p ∈ am_dom_X5_init, ∀ j, (am_rst M d).1 p.1 d p.2.2 j = am_M0.1 p.1 0 p.2.2 j) ∧ ∀ p ∈ am_dom_X5_init, ∀ j, (am_rst M d).2 p.1 d p.2.2 j = am_M0.2 p.1 0 p.2.2 j :=
  ⟨fun p hp j => if_pos ⟨am_N5M p hp, rfl⟩, fun p hp j => if_pos ⟨am_N5M p hp, rfl⟩⟩
theorem am_ok_ch {K : am_K} (hK : am_ok K) {r c : am_L} (hr : r ∈ am_dom K) (hc : c ∈ am_chs r) : c ∈ am_dom K := by
  unfold am_chs at hc
  cases hs : am_sh r.1 with
  | inl s =>
    obtain ⟨ci, n, f⟩ := s
    rw [hs] at hc
    obtain ⟨j, hj, hf⟩ := List.mem_filterMap.mp hc
    have hj' : j < n := List.mem_range.mp hj
    cases hfj : f j with
    | inl z =>
      have : (match f j with | .inr c => some ((c.1, c.2.getD r.2.1, 0) : am_L) | .inl _ => none) = some c := hf
      rw [hfj] at this
      cases this
    | inr z =>
      have : (match f j with | .inr c => some ((c.1, c.2.getD r.2.1, 0) : am_L) | .inl _ => none) = some c := hf
      rw [hfj] at this
      cases this
      exact hK.2.2.1 r hr ci n f j z hs hj' hfj
  | inr s =>
    cases s with
    | inl a => rw [hs] at hc; exact absurd hc List.not_mem_nil
    | inr a =>
      obtain ⟨t, n, g⟩ := a
      rw [hs] at hc
      obtain ⟨j, hj, rfl⟩ := List.mem_map.mp hc
      exact hK.2.2.2 r hr t n g j hs (List.mem_range.mp hj)
theorem am_freeM {K : am_K} {d : Nat} (hK : am_ok K) (h : ∀ r ∈ am_dom K, ¬ (am_isM r.1 = true ∧ r.2.1 = d)) : ∀ r ∈ am_dom K, r ∉ am_dom_X5_init.map (am_ren d) ∧ ∀ c ∈ am_chs r, c ∉ am_dom_X5_init.map (am_ren d) := by
  have key : ∀ r ∈ am_dom K, r ∉ am_dom_X5_init.map (am_ren d) := by
    intro r hr hm
    obtain ⟨p, hp, rfl⟩ := List.mem_map.mp hm
    exact h _ hr ⟨am_N5M p hp, rfl⟩
  exact fun r hr => ⟨key r hr, fun c hc => key c (am_ok_ch hK hr hc)⟩
theorem am_ok_of {K : am_K} {M : am_M} {A : Nat → Prop} (hn : (am_dom K).Nodup) (hD : va_D A (am_ws K M)) (h3 : ∀ r ∈ am_dom K, ∀ c ∈ am_chs r, c ∈ am_dom K) : am_ok K := by
  have hnd : ((am_dom K).map (am_ad K)).Nodup := by
    have h1 := (va_D_iff.mp hD).1
    unfold am_ws at h1
    rw [List.map_map] at h1
    exact h1
  refine ⟨hn, fun p hp q hq e => ?_, fun p hp ci n f j r hs hj hf => h3 p hp _ (am_chs_obj hs hj hf), fun p hp t n g j hs hj => h3 p hp _ (am_chs_arr hs hj)⟩
  obtain ⟨i, hi⟩ := List.getElem?_of_mem hp
  obtain ⟨j, hj⟩ := List.getElem?_of_mem hq
  have hij : i = j := (List.getElem?_inj (by rw [List.length_map]; exact (List.getElem?_eq_some_iff.mp hi).1) hnd).mp (by rw [List.getElem?_map, List.getElem?_map, hi, hj]; exact congrArg some e)
  subst hij
  exact Option.some.inj (hi.symm.trans hj)
theorem am_chs_ren {p : am_L} {d : Nat} {N : List am_L} (hN : am_newok N = true) (hp : p ∈ N) (h505 : p.1 ≠ 505) : ∀ c ∈ am_chs (am_ren d p), c ∈ N.map (am_ren d) := by
  obtain ⟨h0, hch, hno⟩ := am_newok_1 hN hp
  obtain ⟨pk, po, pi⟩ := p
  have h0' : po = 0 := h0
  subst h0'
  intro c hc
  unfold am_chs at hc
  cases hs : am_sh pk with
  | inl s =>
    obtain ⟨ci, n, f⟩ := s
    have hs' : am_sh (am_ren d (pk, 0, pi)).1 = .inl (ci, n, f) := hs
    rw [hs'] at hc
    obtain ⟨j, hj, hf⟩ := List.mem_filterMap.mp hc
    have hj' : j < n := List.mem_range.mp hj
    have hf' : (match f j with | .inr c => some ((c.1, c.2.getD d, 0) : am_L) | .inl _ => none) = some c := hf
    cases hfj : f j with
    | inl z => rw [hfj] at hf'; cases hf'
    | inr z =>
      rw [hfj] at hf'
      cases hf'
      obtain ⟨z1, z2⟩ := z
      have hz : z2 = none := hno ci n f j (z1, z2) hs hj' hfj
      subst hz
      exact List.mem_map.mpr ⟨(z1, 0, 0), hch _ (am_chs_obj (p := (pk, 0, pi)) hs hj' hfj), rfl⟩
  | inr s =>
    cases s with
    | inl a =>
      have hs' : am_sh (am_ren d (pk, 0, pi)).1 = .inr (.inl a) := hs
      rw [hs'] at hc
      exact absurd hc List.not_mem_nil
    | inr a =>
      obtain ⟨t, n, g⟩ := a
      have hs' : am_sh (am_ren d (pk, 0, pi)).1 = .inr (.inr (t, n, g)) := hs
      rw [hs'] at hc
      obtain ⟨j, hj, rfl⟩ := List.mem_map.mp hc
      have e1 := am_rows_ren hs h505 d j
      show g d j ∈ _
      rw [e1.1]
      exact List.mem_map.mpr ⟨g 0 j, hch _ (am_chs_arr (p := (pk, 0, pi)) hs (List.mem_range.mp hj)), rfl⟩
theorem am_ren_inj {d : Nat} {N : List am_L} (hN : am_newok N = true) (hn : N.Nodup) : (N.map (am_ren d)).Nodup := by
  rw [List.nodup_iff_pairwise_ne, List.pairwise_map]
  refine List.Pairwise.imp_of_mem (fun {a b} ha hb hab e => hab ?_) hn
  have e1 := (am_newok_1 hN ha).1
  have e2 := (am_newok_1 hN hb).1
  obtain ⟨a1, a2, a3⟩ := a
  obtain ⟨b1, b2, b3⟩ := b
  simp only [am_ren, Prod.mk.injEq] at e e1 e2 ⊢
  omega
theorem am_ok_extM {K : am_K} {M : am_M} {d : Nat} {ad1 : am_L → Nat} {A : Nat → Prop} (hK : am_ok K) (h : ∀ r ∈ am_dom K, ¬ (am_isM r.1 = true ∧ r.2.1 = d)) (hD : va_D A (am_ws (am_extN K am_dom_X5_init d ad1) M)) : am_ok (am_extN K am_dom_X5_init d ad1) := by
  refine am_ok_of ?_ hD (fun r hr c hc => ?_)
  · show (am_dom K ++ am_dom_X5_init.map (am_ren d)).Nodup
    rw [List.nodup_append]
    refine ⟨hK.1, am_ren_inj am_N5ok am_N5nd, fun a ha b hb e => ?_⟩
    subst e
    exact ((am_freeM hK h) a ha).1 hb
  · rcases List.mem_append.mp hr with h1 | h1
    · exact List.mem_append_left _ (am_ok_ch hK h1 hc)
    · obtain ⟨p, hp, rfl⟩ := List.mem_map.mp h1
      exact List.mem_append_right _ (am_chs_ren am_N5ok hp (am_N505 p hp) c hc)
/-- a world that goes on from another -/
def am_Ex (K K' : am_K) : Prop := K'.1 = K.1 ∧ am_D K' = am_D K ∧ am_cA K' = am_cA K ∧ (∀ r, r ∈ am_dom K ∨ 9000 ≤ r.1 → am_ad K' r = am_ad K r) ∧ ∀ r ∈ am_dom K, r ∈ am_dom K'
theorem am_Ex.rf (K : am_K) : am_Ex K K := ⟨rfl, rfl, rfl, fun _ _ => rfl, fun _ h => h⟩
theorem am_Ex.trans {K K' K'' : am_K} (h : am_Ex K K') (h' : am_Ex K' K'') : am_Ex K K'' :=
  ⟨h'.1.trans h.1, h'.2.1.trans h.2.1, h'.2.2.1.trans h.2.2.1, fun r hr => (h'.2.2.2.1 r (hr.imp (h.2.2.2.2 r) id)).trans (h.2.2.2.1 r hr), fun r hr => h'.2.2.2.2 r (h.2.2.2.2 r hr)⟩
theorem am_Ex.v {K K' : am_K} (h : am_Ex K K') {v : am_V} (hv : am_vk K v) : am_v K' v = am_v K v := by
  rcases v with x | y | q
  · rfl
  · rfl
  · exact congrArg Value.ref (h.2.2.2.1 q hv)
theorem am_Ex.vk {K K' : am_K} (h : am_Ex K K') {v : am_V} (hv : am_vk K v) : am_vk K' v := by
  rcases v with x | y | q
  · trivial
  · trivial
  · exact hv.imp (h.2.2.2.2 q) id
theorem am_Ex.ls {K K' : am_K} (h : am_Ex K K') {ls : List (Nat × am_V)} (hl : ∀ q ∈ ls, am_vk K q.2) : am_ls K' ls = am_ls K ls := List.map_congr_left fun q hq => by rw [h.v (hl q hq)]
theorem am_Ex.st {K K' : am_K} (h : am_Ex K K') {st : List am_V} (hl : ∀ q ∈ st, am_vk K q) : st.map (am_v K') = st.map (am_v K) := List.map_congr_left fun q hq => h.v (hl q hq)
theorem am_Ex_extM {K : am_K} {d : Nat} {ad1 : am_L → Nat} (hK : am_ok K) (h : ∀ r ∈ am_dom K, ¬ (am_isM r.1 = true ∧ r.2.1 = d)) : am_Ex K (am_extN K am_dom_X5_init d ad1) := by
  refine ⟨rfl, rfl, rfl, fun r hr => ?_, fun r hr => List.mem_append_left _ hr⟩
  refine if_neg (fun hm => ?_)
  rcases hr with h1 | h1
  · exact ((am_freeM hK h) r h1).1 hm
  · obtain ⟨p, hp, rfl⟩ := List.mem_map.mp hm
    have h2 := am_N5M p hp
    have h3 : 9000 ≤ p.1 := h1
    unfold am_isM at h2
    simp only [Bool.or_eq_true, Bool.and_eq_true, Nat.beq_eq, Nat.ble_eq, Nat.blt_eq] at h2
    omega
/-- what the reference object 0 keeps at its two places -/
def am_setq (K : am_K) (j : Nat) (v : Value) : am_K := (K.1, K.2.1, K.2.2.1, fun o i => if o = 0 ∧ i = j then v else am_opq K o i, K.2.2.2.2.1, K.2.2.2.2.2)
theorem am_setq_Ex (K : am_K) (j : Nat) (v : Value) : am_Ex K (am_setq K j v) := ⟨rfl, rfl, rfl, fun _ _ => rfl, fun _ h => h⟩
theorem am_setq_ok {K : am_K} {j : Nat} {v : Value} (h : am_ok K) : am_ok (am_setq K j v) := h
