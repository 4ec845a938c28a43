/-! calls that make: the world goes on -/
theorem va_Z.wider {C n d : String} {v : Value} {A B : Nat → Prop} {U : State} (h : va_Z C n d v A U U.heap) (hAB : ∀ q, B q → A q ∨ U.heap.size ≤ q) : va_Z C n d v B U U.heap := by
  obtain ⟨cf, kf, fi, f, a, cell, h1, h2, h3, h4, h5, h6, h7, h8⟩ := h
  exact ⟨cf, kf, fi, f, a, cell, h1, h2, h3, h4, h5, h6, h7, fun z => (hAB a z).elim h8 (fun q => Nat.not_le.mpr (Array.getElem?_eq_some_iff.mp h5).1 q)⟩
theorem va_T.wider {ty : FieldType} {t N : Nat} {f : Nat → Value} {A B : Nat → Prop} {U : State} (h : va_T ty t N f A U U.heap) (hAB : ∀ q, B q → A q ∨ U.heap.size ≤ q) : va_T ty t N f B U U.heap := by
  obtain ⟨cell, h1, h2, h3, h4, h5, h6, h7⟩ := h
  exact ⟨cell, h1, h2, h3, h4, h5, h6, fun z => (hAB t z).elim h7 (fun q => Nat.not_le.mpr (Array.getElem?_eq_some_iff.mp h1).1 q)⟩
theorem va_O.wider {E : String} {t : Nat} {A B : Nat → Prop} {U : State} (h : va_O E t A U U.heap) (hAB : ∀ q, B q → A q ∨ U.heap.size ≤ q) : va_O E t B U U.heap := by
  obtain ⟨cell, h1, h2, h3, h4⟩ := h
  exact ⟨cell, h1, h2, h3, fun z => (hAB t z).elim h4 (fun q => Nat.not_le.mpr (Array.getElem?_eq_some_iff.mp h1).1 q)⟩
theorem va_OF.wider {o n d : String} {v : Value} {t : Nat} {A B : Nat → Prop} {U : State} (h : va_OF o n d v t A U U.heap) (hAB : ∀ q, B q → A q ∨ U.heap.size ≤ q) : va_OF o n d v t B U U.heap := by
  obtain ⟨cf, k, i, f, cell, h1, h2, h3, h4, h5, h6⟩ := h
  exact ⟨cf, k, i, f, cell, h1, h2, h3, h4, h5, fun z => (hAB t z).elim h6 (fun q => Nat.not_le.mpr (Array.getElem?_eq_some_iff.mp h3).1 q)⟩
theorem am_X_wider {K K' : am_K} {U : State} (hE : am_Ex K K') (hAB : ∀ q, am_A K' q → am_A K q ∨ U.heap.size ≤ q) (h : am_X K U) : am_X K' U := by
  have e : ∀ a b c : Nat, 9000 ≤ a → am_ad K' (a, b, c) = am_ad K (a, b, c) := fun a b c ha => hE.2.2.2.1 (a, b, c) (Or.inr ha)
  unfold am_X at h ⊢
  simp only [e 9000 0 0 (by decide), e 9001 0 0 (by decide), e 9100 _ 0 (by decide), e 9101 _ 0 (by decide)]
  obtain ⟨h1, h2, h3, h4, h5, h6, h7, h8, h9, h10⟩ := h
  refine ⟨h1, h2, h3.wider hAB, h4.wider hAB, h5.wider hAB, h6.wider hAB, h7.wider hAB, ?_, ?_, h10⟩
  · rcases h8 with h | ⟨t, h⟩
    · exact Or.inl (h.wider hAB)
    · exact Or.inr ⟨t, h.wider hAB⟩
  · exact ⟨fun i hi => ⟨(h9.1 i hi).1.wider hAB, (h9.1 i hi).2.1.wider hAB, (h9.1 i hi).2.2.1.wider hAB, (h9.1 i hi).2.2.2.wider hAB⟩, h9.2⟩
theorem am_I_wider {K K' : am_K} {mi : am_Mi} {p : Program} {s : State} {m : MethodId} {args : Array Value} {meth : Method} {c : Code} (hE : am_Ex K K') (hAB : ∀ q, am_A K' q → am_A K q ∨ s.heap.size ≤ q) (h : am_I K mi p s m args meth c) : am_I K' mi p s m args meth c := by
  obtain ⟨h1, h2, h3, h4, h5, h6, h7, h8, h9⟩ := h
  refine ⟨h1, h2, h3, h4, h5, h6, h7, ?_, am_X_wider hE hAB h9⟩
  have et : am_tys K' = am_tys K := by unfold am_tys; rw [hE.2.2.1]
  rw [hE.2.1, et]
  exact h8
theorem gv_old_of {F : gv_F} {K : am_K} (h : ∀ a, a < F.2.2.2.1.heap.size → F.2.2.2.2.2.2.2.2.2.2 a → am_A K a) : gv_old F K := by
  intro H locs hS hX U hU hW
  subst hU
  refine am_X_next (locs := []) hW ⟨hS.1, fun q h1 h2 => hS.2.1 q h1 (fun z => h2 (h q h1 z)), fun _ h => absurd h List.not_mem_nil⟩ hX
theorem am_noqB : am_shT.all (fun q => Nat.beq q.1 5 || (match q.2 with | .inl s => (List.range s.2.1).all (fun j => match s.2.2 j with | .inl z => Nat.blt z 2 | .inr _ => true) | .inr _ => true)) = true := by decide +kernel
theorem am_noq {k ci n j z : Nat} {f : Nat → am_F} (hk : k ≠ 5) (hs : am_sh k = .inl (ci, n, f)) (hj : j < n) (hf : f j = .inl z) : z < 2 := by
  rcases am_look_in2 k am_shT with ⟨q, hq, e1, e⟩ | e
  · have h1 := List.all_eq_true.mp am_noqB q hq
    have e2 : q.2 = .inl (ci, n, f) := e.symm.trans hs
    rw [e2, e1] at h1
    have h5 : Nat.beq k 5 = false := by
      cases hb : Nat.beq k 5 with
      | false => rfl
      | true => exact absurd (Nat.eq_of_beq_eq_true hb) hk
    rw [h5, Bool.false_or] at h1
    have h2 := List.all_eq_true.mp h1 j (List.mem_range.mpr hj)
    have h3 : (match f j with | .inl z => Nat.blt z 2 | .inr _ => true) = true := h2
    rw [hf] at h3
    exact Nat.blt_eq.mp h3
  · rw [am_sh, e] at hs; cases hs
section GVM
variable {F : gv_F} {K : am_K} {mi : am_Mi} {cells slots pc : Nat} {ls : List (Nat × am_V)} {st : List am_V} {M : am_M}
/-- what isn't looked at, looked at: null or not -/
theorem gv_nnT {j idx : Nat} {off : Int} {x : Nat} (tgt : Nat) (hj : j < 40) (hfj : am_f5 j = .inl 2) (hd : decode mi.2.2.1 pc = .ok (.getfield idx, 3)) (hd2 : decode mi.2.2.1 (pc + 3) = .ok (.ifnonnull off, 3)) (ht : ((pc + 3 : Nat) : Int) + off = (tgt : Int)) (hl0 : am_FL mi.1 idx 5 40 j) {o : Nat} (ho : am_opq K o j = .ref x) (kk : gv F mi K cells slots tgt ls st M) : gv F mi K cells slots pc ls (.inr (.inr (5, o, 0)) :: st) M := by
  intro H locs la hK hI hP hS hA hl hlk hsk
  obtain ⟨C, T, hc, _, hlink, hin, -⟩ := hl0
  obtain ⟨q0, hq0⟩ := am_place (am_in (by decide) (am_hd hsk))
  have he := am_wsK M hq0
  rw [am_e_obj sh_5] at he
  refine va_get (D := am_D K) (cl := vwCl) (tys := am_tys K) (ws := am_ws K M) (Ts := am_T) (ref := (T j).1) (v := .ref x) hI.1 hI.2.1 hI.2.2.2.2.2.1 hin hI.2.2.2.2.1 hI.2.2.2.2.2.2.2.1 hP q0 he hc j hj (hI.2.2.2.2.2.1 _ hlink) (fun _ h => h) (by rw [am_rg hj, hfj]; exact congrArg some ho) hd ?_
  exact lv_ifnonnull hI.1 hI.2.1 hd2 ht (kk H locs la hK hI hP hS hA hl hlk (am_tl hsk))
theorem gv_nnF {j idx : Nat} {off : Int} (hj : j < 40) (hfj : am_f5 j = .inl 2) (hd : decode mi.2.2.1 pc = .ok (.getfield idx, 3)) (hd2 : decode mi.2.2.1 (pc + 3) = .ok (.ifnonnull off, 3)) (hl0 : am_FL mi.1 idx 5 40 j) {o : Nat} (ho : am_opq K o j = .null) (kk : gv F mi K cells slots (pc + 6) ls st M) : gv F mi K cells slots pc ls (.inr (.inr (5, o, 0)) :: st) M := by
  intro H locs la hK hI hP hS hA hl hlk hsk
  obtain ⟨C, T, hc, _, hlink, hin, -⟩ := hl0
  obtain ⟨q0, hq0⟩ := am_place (am_in (by decide) (am_hd hsk))
  have he := am_wsK M hq0
  rw [am_e_obj sh_5] at he
  refine va_get (D := am_D K) (cl := vwCl) (tys := am_tys K) (ws := am_ws K M) (Ts := am_T) (ref := (T j).1) (v := .null) hI.1 hI.2.1 hI.2.2.2.2.2.1 hin hI.2.2.2.2.1 hI.2.2.2.2.2.2.2.1 hP q0 he hc j hj (hI.2.2.2.2.2.1 _ hlink) (fun _ h => h) (by rw [am_rg hj, hfj]; exact congrArg some ho) hd ?_
  exact lv_ifnonnullN hI.1 hI.2.1 hd2 (kk H locs la hK hI hP hS hA hl hlk (am_tl hsk))
theorem gv_getO {j idx d : Nat} (hj : j < 40) (hfj : am_f5 j = .inl 2) (hd : decode mi.2.2.1 pc = .ok (.getfield idx, 3)) (hl0 : am_FL mi.1 idx 5 40 j) {o : Nat} (ho : am_opq K o j = .ref (am_ad K (5, d, 0))) (hmem : (5, d, 0) ∈ am_dom K) (kk : gv F mi K cells slots (pc + 3) ls (.inr (.inr (5, d, 0)) :: st) M) : gv F mi K cells slots pc ls (.inr (.inr (5, o, 0)) :: st) M := by
  intro H locs la hK hI hP hS hA hl hlk hsk
  obtain ⟨C, T, hc, _, hlink, hin, -⟩ := hl0
  obtain ⟨q0, hq0⟩ := am_place (am_in (by decide) (am_hd hsk))
  have he := am_wsK M hq0
  rw [am_e_obj sh_5] at he
  exact va_get (D := am_D K) (cl := vwCl) (tys := am_tys K) (ws := am_ws K M) (Ts := am_T) (ref := (T j).1) (v := .ref (am_ad K (5, d, 0))) hI.1 hI.2.1 hI.2.2.2.2.2.1 hin hI.2.2.2.2.1 hI.2.2.2.2.2.2.2.1 hP q0 he hc j hj (hI.2.2.2.2.2.1 _ hlink) (fun _ h => h) (by rw [am_rg hj, hfj]; exact congrArg some ho) hd (kk H locs la hK hI hP hS hA hl hlk (am_cs (Or.inl hmem) (am_tl hsk)))
/-- the place that isn't looked at gets the new object -/
theorem gv_putO {j idx d : Nat} {ty : FieldType} (hj : j < 40) (hfj : am_f5 j = .inl 2) (hd : decode mi.2.2.1 pc = .ok (.putfield idx, 3)) (hl0 : am_FL mi.1 idx 5 40 j) (hfp : am_FP 5 j ty) (hn : ∀ v, narrow ty (.ref v) = .ref v) (hfit : ∀ v, fits ty (.ref v) = true) (h50 : ∀ r ∈ am_dom K, r.1 = 5 → r.2.1 = 0 → r = (5, 0, 0))
    (kk : gv F mi (am_setq K j (.ref (am_ad K (5, d, 0)))) cells slots (pc + 3) ls st M) : gv F mi K cells slots pc ls (.inr (.inr (5, d, 0)) :: .inr (.inr (5, 0, 0)) :: st) M := by
  intro H locs la hK hI hP hS hA hl hlk hsk
  obtain ⟨C, T, hc, _, hlink, hin, ty0, hty, hnm⟩ := hl0
  obtain ⟨q, hq1, hq2, hq3⟩ := hfp
  cases (hc.symm.trans hq1)
  obtain ⟨q0, hq0⟩ := am_place (am_in (by decide) (am_hd (am_tl hsk)))
  have he := am_wsK M hq0
  rw [am_e_obj sh_5] at he
  refine va_put (D := am_D K) (cl := vwCl) (tys := am_tys K) (ws := am_ws K M) (Ts := am_T) (ref := (T j).1) (v := .ref (am_ad K (5, d, 0))) (ty := ty) hI.1 hI.2.1 hI.2.2.2.2.2.1 hin ty0 hty hnm hI.2.2.2.2.1 hI.2.2.2.2.2.2.2.1 hP (am_wsD0 hK M hA) hS q0 he hc j hj (hI.2.2.2.2.2.1 _ hlink) (fun _ h => h) hq2 hq3 (hn _) (hfit _) (by rw [List.length_map, List.length_range]; exact hj) hd (fun H1 locs1 hP1 _ hS1 => ?_)
  have hset : (am_ws K M).set q0 (am_ad K (5, 0, 0), .inr (5, ((List.range 40).map (fun j => am_fv K M (5, 0, 0) j (am_f5 j))).set j (.ref (am_ad K (5, d, 0))))) = am_ws (am_setq K j (.ref (am_ad K (5, d, 0)))) M := by
    have h1 := am_wsS (K := K) (M := M) (M' := M) (q := (5, 0, 0)) (k := q0) hK hq0 rfl (fun _ _ => rfl)
    have hl9 := (List.getElem?_eq_some_iff.mp hq0).1
    refine List.ext_getElem? fun i => ?_
    by_cases hi : q0 = i
    · subst hi
      rw [List.getElem?_set_self (by unfold am_ws; rw [List.length_map]; exact hl9)]
      have h2 := am_wsK (K := am_setq K j (.ref (am_ad K (5, d, 0)))) M (q := (5, 0, 0)) hq0
      rw [h2, am_e_obj sh_5]
      refine congrArg some (congrArg (Prod.mk _) (congrArg Sum.inr (congrArg (Prod.mk 5) (am_rgS ?_ (fun i hi => ?_)))))
      · rw [hfj]
        exact if_pos ⟨rfl, rfl⟩
      · unfold am_fv
        split
        · rfl
        · rfl
        · exact if_neg (fun z => hi z.2)
        · rfl
    · rw [List.getElem?_set_ne hi]
      unfold am_ws
      show ((am_dom K).map _)[i]? = ((am_dom K).map _)[i]?
      rw [List.getElem?_map, List.getElem?_map]
      cases hr : (am_dom K)[i]? with
      | none => rfl
      | some r =>
        have hne : r ≠ (5, 0, 0) := fun e => hi ((List.getElem?_inj hl9 hK.1).mp (hq0.trans (by rw [hr, e])))
        show some (am_ad K r, am_e K M r) = some (am_ad K r, am_e (am_setq K j (.ref (am_ad K (5, d, 0)))) M r)
        refine congrArg some (congrArg (Prod.mk _) ?_)
        cases hsr : am_sh r.1 with
        | inl s =>
          obtain ⟨ci, n, f⟩ := s
          obtain ⟨r1, r2, r3⟩ := r
          rw [am_e_obj hsr, am_e_obj hsr]
          refine congrArg Sum.inr (congrArg (Prod.mk ci) (List.map_congr_left fun i hi => ?_))
          cases hfi : f i with
          | inr z => rfl
          | inl z =>
            rcases z with _ | _ | z
            · rfl
            · rfl
            · refine (if_neg (fun y => ?_)).symm
              by_cases h5 : r1 = 5
              · have y1 : r2 = 0 := y.1
                exact hne (h50 (r1, r2, r3) (List.mem_of_getElem? hr) h5 y1)
              · have := am_noq h5 hsr (List.mem_range.mp hi) hfi
                omega
        | inr s =>
          unfold am_e
          rw [hsr]
          rcases s with ⟨t, n⟩ | a
          · rcases t with _ | _ | _ | t <;> rfl
          · rfl
  rw [hset] at hP1
  exact kk H1 locs1 la (am_setq_ok hK) hI hP1 hS1 hA hl hlk (am_tl (am_tl hsk))
end GVM
