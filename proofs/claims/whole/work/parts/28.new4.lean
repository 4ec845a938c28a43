/-! the law makes the class's object -/
theorem cl_L_7 : Cond.classLink RL 7 RX4 ∈ am_T := am_Tt 14 (by decide +kernel) rfl
theorem mk_4 : Cond.instantiable RX4 9 ∈ am_T := am_Tt 15 (by decide +kernel) rfl
theorem ini_4 : Cond.initialized RX4 ∈ am_T := am_Tt 1 (by decide +kernel) rfl
theorem ml_L_9 : Cond.methodLink RL 9 yX4_init ∈ am_T := am_Tt 16 (by decide +kernel) rfl
theorem inst_4 : Cond.instanceMethod yX4_init ∈ am_T := am_Tt 17 (by decide +kernel) rfl
def am_df4 : List Value := [.null, .null, .null, .null, .null, .null, .null, .null, .int 0]
def am_first (K : am_K) (ad1 : am_L → Nat) : am_K := (K.1, K.2.1, fun r => if r.1 < 9000 then ad1 r else am_ad K r, fun _ _ => .null, K.2.2.2.2.1, am_dom_X4_init)
theorem am_N4nd : am_dom_X4_init.Nodup := by decide +kernel
theorem am_N4lo : ∀ r ∈ am_dom_X4_init, r.1 < 9000 := by decide +kernel
theorem am_N4ch : ∀ r ∈ am_dom_X4_init, ∀ c ∈ am_chs r, c ∈ am_dom_X4_init := by decide +kernel
theorem am_N4no : ∀ d, ∀ r ∈ am_dom_X4_init, ¬ (am_isM r.1 = true ∧ r.2.1 = d) := by
  intro d r hr h
  have h1 : am_dom_X4_init.all (fun r => !am_isM r.1) = true := by decide +kernel
  have h2 := List.all_eq_true.mp h1 r hr
  rw [h.1] at h2
  cases h2
theorem am_first_ws {K : am_K} {ad1 : am_L → Nat} : am_ws (am_first K ad1) am_M0 = am_ws (am_mk K.1 K.2.1 K.2.2.2.2.1 ad1 am_dom_X4_init) am_M0 := by
  unfold am_ws
  refine List.map_congr_left fun r hr => ?_
  have eb : ∀ c, c.1 < 9000 → am_ad (am_first K ad1) c = am_ad (am_mk K.1 K.2.1 K.2.2.2.2.1 ad1 am_dom_X4_init) c := fun c hc => if_pos hc
  have ea : ∀ c, c ∈ am_dom_X4_init → am_ad (am_first K ad1) c = am_ad (am_mk K.1 K.2.1 K.2.2.2.2.1 ad1 am_dom_X4_init) c := fun c hc => eb c (am_N4lo c hc)
  refine congr (congrArg Prod.mk (ea r hr)) ?_
  cases hs : am_sh r.1 with
  | inl s =>
    refine am_e_ad rfl rfl (fun ci n f j c hs hj hf => ea _ (am_N4ch r hr _ (am_chs_obj hs hj hf))) (fun t n g hs2 j => by rw [hs] at hs2; cases hs2)
  | inr s =>
    cases s with
    | inl a => exact am_e_ad rfl rfl (fun ci n f j c hs2 hj hf => by rw [hs] at hs2; cases hs2) (fun t n g hs2 j => by rw [hs] at hs2; cases hs2)
    | inr a =>
      have h1 : ∀ q ∈ am_dom_X4_init, ∀ a, am_sh q.1 = .inr (.inr a) → q.1 = 505 := by
        intro q hq a ha
        have h1 : am_dom_X4_init.all (fun q => match am_sh q.1 with | .inr (.inr _) => Nat.beq q.1 505 | _ => true) = true := by decide +kernel
        have h2 := List.all_eq_true.mp h1 q hq
        rw [ha] at h2
        exact Nat.eq_of_beq_eq_true h2
      refine am_e_ad rfl rfl (fun ci n f j c hs2 hj hf => by rw [hs] at hs2; cases hs2) (fun t n g hs2 j => ?_)
      have h3 := h1 r hr a hs
      rw [h3, sh_505] at hs2
      obtain ⟨rfl, rfl, rfl⟩ : t = 3 ∧ n = 8 ∧ g = (fun _ i => (2, i, 0)) := by
        have e1 := Sum.inr.inj (Sum.inr.inj hs2)
        have e2 := Prod.mk.inj e1
        have e3 := Prod.mk.inj e2.2
        exact ⟨e2.1.symm, e3.1.symm, e3.2.symm⟩
      exact eb (2, j, 0) (by decide : (2 : Nat) < 9000)
theorem am_first_Ex {K : am_K} {ad1 : am_L → Nat} (hd : am_dom K = []) : am_Ex K (am_first K ad1) := by
  refine ⟨rfl, rfl, rfl, fun r hr => ?_, fun r hr => by rw [hd] at hr; cases hr⟩
  refine if_neg (fun hm => ?_)
  rcases hr with h1 | h1
  · rw [hd] at h1; cases h1
  · have hm' : r.1 < 9000 := hm
    omega
section GV4
variable {F : gv_F} {K : am_K} {mi : am_Mi} {cells slots pc : Nat} {ls : List (Nat × am_V)} {st : List am_V} {M : am_M}
/-- making the class's object, the first of all -/
theorem gv_new4 {idx idx2 : Nat} (hR : 3 ≤ F.2.2.1.frames ∧ 140 ≤ F.2.2.1.locals ∧ cells + 53 ≤ F.2.2.1.cells ∧ slots + 1578 ≤ F.2.2.1.slots) (hFw : am_Fw F.2.2.2.1) (hd1 : decode mi.2.2.1 pc = .ok (.new idx, 3)) (hd2 : decode mi.2.2.1 (pc + 3) = .ok (.dup, 1)) (hd3 : decode mi.2.2.1 (pc + 4) = .ok (.invokespecial idx2, 3)) (hcl : Cond.classLink mi.1 idx RX4 ∈ am_T) (hlk0 : Cond.methodLink mi.1 idx2 yX4_init ∈ am_T) (hdom : am_dom K = []) (hA0 : ∀ q, F.2.2.2.1.heap.size ≤ q → F.2.2.2.2.2.2.2.2.2.2 q) (hA1 : ∀ a, F.2.2.2.2.2.2.2.2.2.2 a → am_A K a ∨ F.2.2.2.1.heap.size ≤ a) (hw : (st.map am_cat).sum ≤ 7)
    (kk : ∀ ad1 : am_L → Nat, am_Ex K (am_first K ad1) → gv F mi (am_first K ad1) (cells + 53) (slots + 1578) (pc + 7) ls (.inr (.inr (4, 0, 0)) :: st) am_M0) : gv F mi K cells slots pc ls st M := by
  intro H locs la hK hI hP hS hA hl hlk hsk
  have hws : am_ws K M = [] := by unfold am_ws; rw [hdom]; rfl
  have hD0 : va_D F.2.2.2.2.2.2.2.2.2.2 (am_ws K M) := am_wsD0 hK _ hA
  have hts := hI.2.2.2.2.2.1
  have hcw : ((st.map (am_v K)).map fun v => v.category).sum ≤ 7 := by rw [am_catS]; exact hw
  refine va_new (ci := 4) (fs := am_df4) (D := am_D K) (cl := vwCl) (tys := am_tys K) (A := F.2.2.2.2.2.2.2.2.2.2) (H0 := F.2.2.2.1.heap) (ws := am_ws K M) (Ts := am_T) (own := mi.1) hI.1 hI.2.1 hts fi_X4 tyX4 tyX4_ok hI.2.2.2.2.1 (hts _ hcl) (hts _ mk_4) (hts _ ini_4) hI.2.2.2.2.2.2.2.1 hP hD0 hS hA0 rfl (by decide +kernel) (by have := hR.2.2.1; omega) (by have := hR.2.2.2; omega) hd1 (fun q H hP hD hS => ?_)
  refine lv_dup hI.1 hI.2.1 hd2 rfl ?_
  have hqm := hP ((am_ws K M).length) (q, .inr (4, am_df4)) (by rw [List.getElem?_append_right (Nat.le_refl _), Nat.sub_self]; rfl)
  have hAq : ∀ a, va_A [(q, .inr (4, am_df4))] H.size a → F.2.2.2.2.2.2.2.2.2.2 a := fun a ha => by
    rcases ha with ⟨k, e2, hk2⟩ | h
    · have h1 := List.mem_singleton.mp (List.mem_of_getElem? hk2)
      have h2 : a = q := (Prod.mk.inj h1).1
      rw [h2]
      exact (va_D_iff.mp hD).2 _ (List.mem_append_right _ (List.mem_singleton.mpr rfl))
    · exact hA0 a (Nat.le_trans hS.1 h)
  have hcb : CallB F.2.2.1 F.2.2.2.1 F.2.2.2.2.2.1 mi.1 idx2 m_X4_init.2.1 m_X4_init.2.2.1 m_X4_init.2.2.2.1 none (am_tw m_X4_init) { frames := 2, cells := 52, slots := 1569, locals := 100 } 52 1569 0 := callB_of 0 hts (am_twG cb_X4_init) rfl rfl rfl (hts _ cb_X4_init.1) (hts _ hlk0) cb_X4_init.2.2.2.1 ⟨hR.1, by show 8 + (2 + 11) + 100 ≤ _; have := hR.2.1; omega⟩
  have hpre : ∀ U : State, U.heap = H → F.2.2.2.1.WarmedH U.vm → cn_Pc (am_l K) (am_D K) (am_cA K) 4 q H.size am_df4 ([.ref q] : List Value).toArray U := fun U hU hW => by
    subst hU
    refine ⟨rfl, rfl, va_P_mem.mpr fun x hx => ?_, va_K.moved hW.alike hI.2.2.2.2.2.2.2.1, va_D_iff.mpr ⟨by simp, fun _ _ => trivial⟩, am_Fw_warm hW hFw⟩
    rw [List.mem_singleton.mp hx]
    exact hqm
  have hrun := va_runI (b := q) (As := []) (rest := .ref q :: st.map (am_v K)) (H := H) (g := F0 F.2.2.2.2.1 (pc + 4) la (.ref q :: .ref q :: st.map (am_v K))) (cells := cells + 1) (slots := slots + 9) (locs := locs) (e := F.2.1) (below := F.2.2.2.2.2.2.1) (meth := F.2.2.2.2.2.2.2.1) (p := F.1)
    ⟨hI.1, hI.2.1, hI.2.2.2.1.trans hl.1.symm, hI.2.2.2.2.1, hts⟩ (c_X4_init (am_l K) (am_D K) (am_cA K) q H.size) ⟨hcb, rfl, hts _ inst_4⟩ ⟨cn_blind, hpre⟩ rfl rfl rfl rfl (lv_room (by rw [List.map_cons, List.sum_cons]; have : (Value.ref q).category = 1 := rfl; omega)) hd3 ⟨by have := hR.2.2.1; omega, by have := hR.2.2.2; omega⟩
  refine va_callv (A0 := F.2.2.2.2.2.2.2.2.2.2) (H0 := F.2.2.2.1.heap) (pc := pc + 4) hrun hS (fun a _ h => hAq a h) (fun a h => hAq a h) (fun ad1 t H1 locs1 ht hvm hpost hB1 hz1 hk1 hS1 => ?_)
  obtain ⟨hP1, hD1⟩ := hB1
  rw [ht] at hP1
  obtain ⟨hP2, hD2⟩ := cn_join hP hD hk1 hP1 hD1 hAq
  rw [hws, List.nil_append] at hP2 hD2
  have hP3 : va_P (am_D K) vwCl (am_ws (am_first K ad1) am_M0) H1 := by rw [am_first_ws]; exact hP2
  have hD3 : va_D F.2.2.2.2.2.2.2.2.2.2 (am_ws (am_first K ad1) am_M0) := by rw [am_first_ws]; exact hD2
  have hE := am_first_Ex (ad1 := ad1) hdom
  have hok : am_ok (am_first K ad1) := am_ok_of am_N4nd hD3 am_N4ch
  have hAn : ∀ a, am_A (am_first K ad1) a → F.2.2.2.2.2.2.2.2.2.2 a := by
    intro a ⟨r, hr, e⟩
    rw [← e]
    exact (va_D_iff.mp hD3).2 (am_ad (am_first K ad1) r, am_e (am_first K ad1) am_M0 r) (List.mem_map.mpr ⟨r, hr, rfl⟩)
  have hmem : (4, 0, 0) ∈ am_dom (am_first K ad1) := (by decide +kernel : ((4, 0, 0) : am_L) ∈ am_dom_X4_init)
  have hq2 : am_ad (am_first K ad1) (4, 0, 0) = q := (show (if (4 : Nat) < 9000 then ad1 (4, 0, 0) else am_ad K (4, 0, 0)) = q from (if_pos (by decide)).trans hpost)
  have k9 := kk ad1 hE H1 locs1 la hok (am_I_wider hE (fun a ha => hA1 a (hAn a ha)) hI) hP3 hS1 hAn (by rw [hE.ls hlk]; exact hl) (fun v hv => hE.vk (hlk v hv)) (am_cs (Or.inl hmem) (fun v hv => hE.vk (hsk v hv)))
  rw [List.map_cons, hE.st hsk] at k9
  have e9 : am_v (am_first K ad1) (.inr (.inr (4, 0, 0))) = .ref q := congrArg Value.ref hq2
  rw [e9] at k9
  exact k9
end GV4
