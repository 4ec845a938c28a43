/-! what a constructor made comes into the world under names of its own -/
theorem cn_join {D : va_G} {cl : List vw_C} {A : Nat → Prop} {ws0 w1 : va_W} {q : Nat} {e : va_E} {H H1 : Heap} (hP : va_P D cl (ws0 ++ [(q, e)]) H) (hD : va_D A (ws0 ++ [(q, e)])) (hk : ∀ a : Nat, a < H.size → ¬ va_A [(q, e)] H.size a → H1[a]? = H[a]?) (hP1 : va_P D cl w1 H1) (hD1 : va_D (va_A [(q, e)] H.size) w1) (hAq : ∀ a, va_A [(q, e)] H.size a → A a) : va_P D cl (ws0 ++ w1) H1 ∧ va_D A (ws0 ++ w1) := by
  have hnd := (va_D_iff.mp hD).1
  rw [List.map_append, List.nodup_append] at hnd
  have hpm := va_P_mem.mp hP
  have hfar : ∀ x ∈ ws0, ¬ va_A [(q, e)] H.size x.1 := by
    intro x hx hA
    rcases hA with ⟨k, e2, hk2⟩ | h
    · have hk0 : k = 0 := by
        have := (List.getElem?_eq_some_iff.mp hk2).1
        simp at this
        exact this
      subst hk0
      have e3 : q = x.1 := by
        have := Option.some.inj hk2
        exact (Prod.mk.inj this).1
      exact hnd.2.2 x.1 (List.mem_map.mpr ⟨x, hx, rfl⟩) q (List.mem_map.mpr ⟨(q, e), List.mem_singleton.mpr rfl, rfl⟩) e3.symm
    · have := (hpm x (List.mem_append_left _ hx)).lt
      omega
  refine ⟨va_P_mem.mpr fun x hx => ?_, va_D_iff.mpr ⟨?_, fun x hx => ?_⟩⟩
  · rcases List.mem_append.mp hx with h | h
    · exact (hpm x (List.mem_append_left _ h)).kept (hk _ (hpm x (List.mem_append_left _ h)).lt (hfar x h))
    · exact va_P_mem.mp hP1 x h
  · rw [List.map_append, List.nodup_append]
    refine ⟨hnd.1, (va_D_iff.mp hD1).1, fun a ha b hb hab => ?_⟩
    obtain ⟨x, hx, rfl⟩ := List.mem_map.mp ha
    obtain ⟨y, hy, rfl⟩ := List.mem_map.mp hb
    exact hfar x hx (by rw [hab]; exact (va_D_iff.mp hD1).2 y hy)
  · rcases List.mem_append.mp hx with h | h
    · exact (va_D_iff.mp hD).2 x (List.mem_append_left _ h)
    · exact hAq _ ((va_D_iff.mp hD1).2 x h)
def am_ren (d : Nat) (p : am_L) : am_L := (p.1, d, p.2.2)
def am_extN (K : am_K) (N : List am_L) (d : Nat) (ad1 : am_L → Nat) : am_K := (K.1, K.2.1, fun r => if r ∈ N.map (am_ren d) then ad1 (r.1, 0, r.2.2) else am_ad K r, K.2.2.2.1, K.2.2.2.2.1, am_dom K ++ N.map (am_ren d))
/-- what a thing's own are -/
def am_chs (r : am_L) : List am_L := match am_sh r.1 with
  | .inl s => (List.range s.2.1).filterMap (fun j => match s.2.2 j with | .inr c => some (c.1, c.2.getD r.2.1, 0) | .inl _ => none)
  | .inr (.inl _) => []
  | .inr (.inr a) => (List.range a.2.1).map (a.2.2 r.2.1)
/-- of a new thing's names: object number 0, its own among them, under its own number -/
def am_newok (N : List am_L) : Bool := N.all (fun p => p.2.1 == 0 && (am_chs p).all (fun c => N.contains c) && (match am_sh p.1 with | .inl s => (List.range s.2.1).all (fun j => match s.2.2 j with | .inr c => c.2 == none | .inl _ => true) | _ => true))
theorem am_chs_obj {p : am_L} {ci n j : Nat} {f : Nat → am_F} {c : Nat × Option Nat} (hs : am_sh p.1 = .inl (ci, n, f)) (hj : j < n) (hf : f j = .inr c) : (c.1, c.2.getD p.2.1, 0) ∈ am_chs p := by
  unfold am_chs
  rw [hs]
  exact List.mem_filterMap.mpr ⟨j, List.mem_range.mpr hj, by show (match f j with | .inr c => some ((c.1, c.2.getD p.2.1, 0) : am_L) | .inl _ => none) = _; rw [hf]⟩
theorem am_chs_arr {p : am_L} {t n j : Nat} {g : Nat → Nat → am_L} (hs : am_sh p.1 = .inr (.inr (t, n, g))) (hj : j < n) : g p.2.1 j ∈ am_chs p := by
  unfold am_chs
  rw [hs]
  exact List.mem_map.mpr ⟨j, List.mem_range.mpr hj, rfl⟩
/-- what the shapes say of rows: numbered by the owner, or by the place -/
theorem am_sh_ren : ∀ q ∈ am_shT, ∀ t n g, q.2 = .inr (.inr (t, n, g)) → q.1 ≠ 505 → ∀ d j, g d j = am_ren d (g 0 j) ∧ (g 0 j).2.1 = 0 := by
  intro q hq t n g h hne d j
  simp only [am_shT, List.mem_cons, List.not_mem_nil, or_false] at hq
  rcases hq with rfl | rfl | rfl | rfl | rfl | rfl | rfl | rfl | rfl | rfl | rfl | rfl | rfl | rfl | rfl | rfl | rfl | rfl | rfl | rfl | rfl | rfl | rfl | rfl | rfl | rfl | rfl | rfl | rfl | rfl | rfl | rfl | rfl | rfl | rfl | rfl | rfl | rfl | rfl | rfl | rfl | rfl | rfl | rfl | rfl | rfl | rfl | rfl | rfl | rfl | rfl | rfl | rfl | rfl | rfl | rfl <;> first | (cases h; exact ⟨rfl, rfl⟩) | (cases h; exact absurd rfl hne) | cases h
theorem am_look_in2 (k : Nat) : ∀ (l : List (Nat × am_S)), (∃ q ∈ l, q.1 = k ∧ am_look k l = q.2) ∨ am_look k l = .inr (.inl (0, 0))
  | [] => Or.inr rfl
  | q :: l => by
    unfold am_look
    cases hb : Nat.beq q.1 k with
    | true => exact Or.inl ⟨q, List.mem_cons_self, Nat.eq_of_beq_eq_true hb, rfl⟩
    | false => exact (am_look_in2 k l).elim (fun ⟨r, h1, h2⟩ => Or.inl ⟨r, List.mem_cons_of_mem _ h1, h2⟩) Or.inr
theorem am_rows_ren {k t n : Nat} {g : Nat → Nat → am_L} (h : am_sh k = .inr (.inr (t, n, g))) (hk : k ≠ 505) (d j : Nat) : g d j = am_ren d (g 0 j) ∧ (g 0 j).2.1 = 0 := by
  rcases am_look_in2 k am_shT with ⟨q, hq, e1, e⟩ | e
  · exact am_sh_ren q hq t n g (e.symm.trans h) (by rw [e1]; exact hk) d j
  · rw [am_sh, e] at h; cases h
theorem am_newok_1 {N : List am_L} (h : am_newok N = true) {p : am_L} (hp : p ∈ N) : p.2.1 = 0 ∧ (∀ c ∈ am_chs p, c ∈ N) ∧ ∀ ci n f j c, am_sh p.1 = .inl (ci, n, f) → j < n → f j = .inr c → c.2 = none := by
  have h1 := List.all_eq_true.mp h p hp
  simp only [Bool.and_eq_true, beq_iff_eq] at h1
  refine ⟨h1.1.1, fun c hc => ?_, fun ci n f j c hs hj hf => ?_⟩
  · have := List.all_eq_true.mp h1.1.2 c hc
    exact List.contains_iff_mem.mp this
  · have h2 := h1.2
    rw [hs] at h2
    have h3 := List.all_eq_true.mp h2 j (List.mem_range.mpr hj)
    simp only [hf, beq_iff_eq] at h3
    exact h3
theorem am_ren_ad {K : am_K} {N : List am_L} {d : Nat} {ad1 : am_L → Nat} {p : am_L} (hp : p ∈ N) (h0 : p.2.1 = 0) : am_ad (am_extN K N d ad1) (am_ren d p) = ad1 p := by
  show (if am_ren d p ∈ N.map (am_ren d) then ad1 (p.1, 0, p.2.2) else _) = _
  rw [if_pos (List.mem_map.mpr ⟨p, hp, rfl⟩)]
  exact congrArg ad1 (by rw [← h0])
theorem am_ren_at {l : Launch} {D : va_G} {cA : Nat → ClassId} {K : am_K} {N : List am_L} {d : Nat} {ad1 : am_L → Nat} {p : am_L} {M : am_M} {H : Heap} (hN : am_newok N = true) (hp : p ∈ N) (h505 : p.1 ≠ 505) (hcA : am_cA K = cA) (hop : ∀ j, am_opq K d j = .null) (hM1 : ∀ j, M.1 p.1 d p.2.2 j = am_M0.1 p.1 0 p.2.2 j) (hM2 : ∀ j, M.2 p.1 d p.2.2 j = am_M0.2 p.1 0 p.2.2 j)
    (h : va_at D vwCl (ad1 p, am_e (am_mk l D cA ad1 N) am_M0 p) H) : va_at D vwCl (ad1 p, am_e (am_extN K N d ad1) M (am_ren d p)) H := by
  obtain ⟨h0, hch, hno⟩ := am_newok_1 hN hp
  obtain ⟨pk, po, pi⟩ := p
  have h0' : po = 0 := h0
  subst h0'
  have hcA2 : am_cA (am_extN K N d ad1) = cA := hcA
  cases hs : am_sh pk with
  | inl s =>
    obtain ⟨ci, n, f⟩ := s
    rw [am_e_obj hs] at h
    show va_at D vwCl (ad1 (pk, 0, pi), am_e (am_extN K N d ad1) M (pk, d, pi)) H
    rw [am_e_obj hs]
    have e : (List.range n).map (fun j => am_fv (am_extN K N d ad1) M (pk, d, pi) j (f j)) = (List.range n).map (fun j => am_fv (am_mk l D cA ad1 N) am_M0 (pk, 0, pi) j (f j)) := by
      refine List.map_congr_left fun j hj => ?_
      have hj' := List.mem_range.mp hj
      cases hf : f j with
      | inl z =>
        rcases z with _ | _ | z
        · exact congrArg Value.int (hM1 j)
        · exact congrArg Value.long (hM2 j)
        · exact hop j
      | inr c =>
        have hc := hch _ (am_chs_obj (p := (pk, 0, pi)) hs hj' hf)
        have hn := hno ci n f j c hs hj' hf
        obtain ⟨c1, c2⟩ := c
        have hn' : c2 = none := hn
        subst hn'
        have e1 : am_ad (am_extN K N d ad1) (am_ren d (c1, 0, 0)) = ad1 (c1, 0, 0) := am_ren_ad hc rfl
        exact congrArg Value.ref e1
    rw [e]
    exact h
  | inr s =>
    cases s with
    | inl a =>
      obtain ⟨t, n⟩ := a
      rcases t with _ | _ | _ | t
      · rw [am_e_int hs] at h
        show va_at D vwCl (ad1 (pk, 0, pi), am_e (am_extN K N d ad1) M (pk, d, pi)) H
        rw [am_e_int hs, hcA2, show (fun j => M.1 pk d pi j) = (fun j => am_M0.1 pk 0 pi j) from funext hM1]
        exact h
      · rw [am_e_bool hs] at h
        show va_at D vwCl (ad1 (pk, 0, pi), am_e (am_extN K N d ad1) M (pk, d, pi)) H
        rw [am_e_bool hs, hcA2, show (fun j => M.1 pk d pi j) = (fun j => am_M0.1 pk 0 pi j) from funext hM1]
        exact h
      · rw [am_e_long hs] at h
        show va_at D vwCl (ad1 (pk, 0, pi), am_e (am_extN K N d ad1) M (pk, d, pi)) H
        rw [am_e_long hs, hcA2, show (fun j => M.2 pk d pi j) = (fun j => am_M0.2 pk 0 pi j) from funext hM2]
        exact h
      · have eg : ∀ (K' : am_K) (M' : am_M) (o' : Nat), am_e K' M' (pk, o', pi) = .inl (am_cA K' (t + 3), n, .inl (fun j => M'.1 pk o' pi j)) := by
          intro K' M' o'
          unfold am_e
          simp only [hs]
        rw [eg] at h
        show va_at D vwCl (ad1 (pk, 0, pi), am_e (am_extN K N d ad1) M (pk, d, pi)) H
        rw [eg, hcA2, show (fun j => M.1 pk d pi j) = (fun j => am_M0.1 pk 0 pi j) from funext hM1]
        exact h
    | inr a =>
      obtain ⟨t, n, g⟩ := a
      rw [am_e_ref hs] at h
      show va_at D vwCl (ad1 (pk, 0, pi), am_e (am_extN K N d ad1) M (pk, d, pi)) H
      rw [am_e_ref hs, hcA2]
      have h1 : H[ad1 (pk, 0, pi)]? = some (vp_cell (cA t) (n, .inr (.inr (.inr (.inr (fun j => some (ad1 (g 0 j)))))))) := h
      show H[ad1 (pk, 0, pi)]? = some (vp_cell (cA t) (n, .inr (.inr (.inr (.inr (fun j => some (am_ad (am_extN K N d ad1) (g d j))))))))
      rw [h1, vp_cell_q, vp_cell_q]
      unfold arrV
      congr 3
      funext j
      have hj := hch _ (am_chs_arr (p := (pk, 0, pi)) (j := j.val) hs j.isLt)
      have e1 := am_rows_ren hs h505 d j.val
      have e2 : am_ad (am_extN K N d ad1) (g d j.val) = ad1 (g 0 j.val) := by rw [e1.1]; exact am_ren_ad hj e1.2
      show va_rf (some (ad1 (g 0 j.val))) = va_rf (some (am_ad (am_extN K N d ad1) (g d j.val)))
      rw [e2]
