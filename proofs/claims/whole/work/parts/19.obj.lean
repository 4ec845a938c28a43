theorem am_extN_at {K : am_K} {M : am_M} {N : List am_L} {d : Nat} {ad1 : am_L → Nat} {D : va_G} {cl : List vw_C} {r : am_L} {H : Heap} (h1 : r ∉ N.map (am_ren d)) (h2 : ∀ c ∈ am_chs r, c ∉ N.map (am_ren d)) (h : va_at D cl (am_ad K r, am_e K M r) H) : va_at D cl (am_ad (am_extN K N d ad1) r, am_e (am_extN K N d ad1) M r) H := by
  have ea : ∀ c, c ∉ N.map (am_ren d) → am_ad (am_extN K N d ad1) c = am_ad K c := fun c hc => if_neg hc
  rw [ea r h1]
  cases hs : am_sh r.1 with
  | inl s =>
    rw [am_e_ad (K := K) (K' := am_extN K N d ad1) rfl rfl (fun ci n f j c hs hj hf => ea _ (h2 _ (am_chs_obj hs hj hf))) (fun t n g hs2 j => by rw [hs] at hs2; cases hs2)]
    exact h
  | inr s =>
    cases s with
    | inl a =>
      rw [am_e_ad (K := K) (K' := am_extN K N d ad1) rfl rfl (fun ci n f j c hs2 hj hf => by rw [hs] at hs2; cases hs2) (fun t n g hs2 j => by rw [hs] at hs2; cases hs2)]
      exact h
    | inr a =>
      obtain ⟨t, n, g⟩ := a
      obtain ⟨rk, ro, ri⟩ := r
      rw [am_e_ref hs] at h ⊢
      have h3 : H[am_ad K (rk, ro, ri)]? = some (vp_cell (am_cA K t) (n, .inr (.inr (.inr (.inr (fun j => some (am_ad K (g ro j)))))))) := h
      show H[am_ad K (rk, ro, ri)]? = some (vp_cell (am_cA K t) (n, .inr (.inr (.inr (.inr (fun j => some (am_ad (am_extN K N d ad1) (g ro j))))))))
      rw [h3, vp_cell_q, vp_cell_q]
      unfold arrV
      congr 3
      funext j
      have e2 := ea _ (h2 _ (am_chs_arr (p := (rk, ro, ri)) (j := j.val) hs j.isLt))
      show va_rf (some (am_ad K (g ro j.val))) = va_rf (some (am_ad (am_extN K N d ad1) (g ro j.val)))
      rw [e2]
theorem va_perm3 {α : Type} (a b c : List α) : ((a ++ b) ++ c).Perm ((a ++ c) ++ b) := by
  rw [List.append_assoc, List.append_assoc]
  exact List.Perm.append_left a List.perm_append_comm
/-- the world with what was made -/
theorem cn_merge {l : Launch} {D : va_G} {cA : Nat → ClassId} {K : am_K} {M : am_M} {ex : va_W} {N : List am_L} {d : Nat} {ad1 : am_L → Nat} {A : Nat → Prop} {H : Heap} (hD0 : am_D K = D) (hN : am_newok N = true) (h505 : ∀ p ∈ N, p.1 ≠ 505) (hcA : am_cA K = cA) (hop : ∀ j, am_opq K d j = .null) (hM1 : ∀ p ∈ N, ∀ j, M.1 p.1 d p.2.2 j = am_M0.1 p.1 0 p.2.2 j) (hM2 : ∀ p ∈ N, ∀ j, M.2 p.1 d p.2.2 j = am_M0.2 p.1 0 p.2.2 j)
    (hf : ∀ r ∈ am_dom K, r ∉ N.map (am_ren d) ∧ ∀ c ∈ am_chs r, c ∉ N.map (am_ren d)) (hP : va_P D vwCl ((am_ws K M ++ ex) ++ am_ws (am_mk l D cA ad1 N) am_M0) H) (hD : va_D A ((am_ws K M ++ ex) ++ am_ws (am_mk l D cA ad1 N) am_M0)) : va_P D vwCl (am_ws (am_extN K N d ad1) M ++ ex) H ∧ va_D A (am_ws (am_extN K N d ad1) M ++ ex) := by
  have hpm := va_P_mem.mp hP
  constructor
  · refine va_P_mem.mpr fun x hx => ?_
    rcases List.mem_append.mp hx with h | h
    · obtain ⟨r, hr, rfl⟩ := List.mem_map.mp h
      rcases List.mem_append.mp hr with h' | h'
      · exact am_extN_at (hf r h').1 (hf r h').2 (hpm _ (List.mem_append_left _ (List.mem_append_left _ (List.mem_map.mpr ⟨r, h', rfl⟩))))
      · obtain ⟨p, hp, rfl⟩ := List.mem_map.mp h'
        show va_at D vwCl (am_ad (am_extN K N d ad1) (am_ren d p), am_e (am_extN K N d ad1) M (am_ren d p)) H
        rw [am_ren_ad hp (am_newok_1 hN hp).1]
        exact am_ren_at hN hp (h505 p hp) hcA hop (hM1 p hp) (hM2 p hp) (hpm _ (List.mem_append_right _ (List.mem_map.mpr ⟨p, hp, rfl⟩)))
    · exact hpm x (List.mem_append_left _ (List.mem_append_right _ h))
  · refine va_D_perm hD ?_
    have e1 : (am_ws (am_extN K N d ad1) M ++ ex).map (fun x => x.1) = (((am_ws K M).map (fun x => x.1)) ++ ((am_ws (am_mk l D cA ad1 N) am_M0).map (fun x => x.1))) ++ ex.map (fun x => x.1) := by
      rw [List.map_append]
      refine congrArg (· ++ _) ?_
      show ((am_dom K ++ N.map (am_ren d)).map _).map _ = _
      rw [List.map_append, List.map_append]
      refine congr (congrArg HAppend.hAppend ?_) ?_
      · unfold am_ws
        rw [List.map_map, List.map_map]
        exact List.map_congr_left fun r hr => if_neg (hf r hr).1
      · unfold am_ws
        rw [List.map_map, List.map_map, List.map_map]
        exact List.map_congr_left fun p hp => am_ren_ad hp (am_newok_1 hN hp).1
    rw [e1, List.map_append, List.map_append]
    exact va_perm3 _ _ _
section CNO
variable {p : Program} {l : Launch} {e : Env} {R : Room} {s : State} {m : MethodId} {args : Array Value} {below : List Frame} {meth : Method} {c : Code} {H : Heap} {locs : List Loc} {cells slots : Nat} {Q : State → Prop}
variable {cc : ByteArray} {pc : Nat} {la : Array Slot} {rest : List Value} {A : Nat → Prop} {K : am_K} {M : am_M} {ex : va_W}

theorem cn_objN {mi mi' : am_Mi} {host : String} {rm : Room} {idx idx2 ci N mc ms d : Nat} {C : String} {T : u_T} {ty0 : Nat → FieldType} {df : List Value} {NL : List am_L} (hx : p.tables.exec = Jvm.exec) (hb : c.code = cc) (hml : c.maxLocals = la.size) (hts : ∀ w ∈ am_T, w.before args s = true) (hown : s.vm.findClass mi.1 = some m.cls) (hKs : va_K (am_D K) vwCl (am_tys K) s) (hFw : am_Fw s)
    (hd1 : decode cc pc = .ok (.new idx, 3)) (hd2 : decode cc (pc + 3) = .ok (.dup, 1)) (hd3 : decode cc (pc + 4) = .ok (.invokespecial idx2, 3)) (hin : ∀ w ∈ u_ws C T N, w ∈ am_T) (hty : ∀ k, k < N → parseFieldDescriptor (T k).2.2.1 = some (ty0 k)) (hc : vwCl[ci]? = some (C, T, N)) (hcl : Cond.classLink mi.1 idx C ∈ am_T) (hinst : Cond.instantiable C N ∈ am_T) (hini : Cond.initialized C ∈ am_T) (hfs : ∀ j, j < N → defaultValue (ty0 j) = vp_V df j)
    (hnw : va_Nw (.methodLinkNest mi.1 idx2 mi'.2.1 host) s) (hiw : Cond.instanceMethod mi'.2.1 ∈ am_T) (hnm : mi'.2.1.name = "<init>") (hret : mi'.2.2.2.2 = none) (hB : am_CB mi' 0) (hM : ∀ h0 sz, Met l mi'.2.1 (am_tw mi') rm (cn_Pc l (am_D K) (am_cA K) ci h0 sz df) (cn_Qc l (am_D K) (am_cA K) ci h0 sz df NL) mc ms (va_A [(h0, .inr (ci, df))] sz))
    (hrm : rm.cells = mc ∧ rm.slots = ms ∧ rm.frames + 1 ≤ R.frames ∧ 8 + (mi'.2.2.2.1 + 11) + rm.locals ≤ R.locals) (hcells : cells + 1 + mc ≤ R.cells) (hslots : slots + N + ms ≤ R.slots) (hw : ((rest.map fun v => v.category).sum) ≤ 7)
    (hN : am_newok NL = true) (h505 : ∀ q ∈ NL, q.1 ≠ 505) (hop : ∀ j, am_opq K d j = .null) (hM1 : ∀ q ∈ NL, ∀ j, M.1 q.1 d q.2.2 j = am_M0.1 q.1 0 q.2.2 j) (hM2 : ∀ q ∈ NL, ∀ j, M.2 q.1 d q.2.2 j = am_M0.2 q.1 0 q.2.2 j) (hf : ∀ r ∈ am_dom K, r ∉ NL.map (am_ren d) ∧ ∀ c ∈ am_chs r, c ∉ NL.map (am_ren d))
    (hP : va_P (am_D K) vwCl (am_ws K M ++ ex) H) (hD : va_D A (am_ws K M ++ ex)) (hS : va_S A s.heap H locs) (hA : ∀ q, s.heap.size ≤ q → A q)
    (kk : ∀ (q : Nat) (ad1 : am_L → Nat) (H1 : Heap) (locs1 : List Loc), ad1 (ci, 0, 0) = q → va_P (am_D K) vwCl (am_ws (am_extN K NL d ad1) M ++ ex) H1 → va_D A (am_ws (am_extN K NL d ad1) M ++ ex) → va_S A s.heap H1 locs1 → W p l e R s m args below meth c H1 locs1 (cells + 1 + mc) (slots + N + ms) Q (F0 m (pc + 7) la (.ref q :: rest))) : W p l e R s m args below meth c H locs cells slots Q (F0 m pc la rest) := by
  refine va_new (ci := ci) (fs := df) (D := am_D K) (cl := vwCl) (tys := am_tys K) (A := A) (H0 := s.heap) (ws := am_ws K M ++ ex) (Ts := am_T) (own := mi.1) hx hb hts hin ty0 hty hown (hts _ hcl) (hts _ hinst) (hts _ hini) hKs hP hD hS hA hc hfs (by omega) (by omega) hd1 (fun q H hP hD hS => ?_)
  refine lv_dup hx hb hd2 rfl ?_
  have hqm := hP ((am_ws K M ++ ex).length) (q, .inr (ci, df)) (by rw [List.getElem?_append_right (Nat.le_refl _), Nat.sub_self]; rfl)
  have hAq : ∀ a, va_A [(q, .inr (ci, df))] H.size a → A a := fun a ha => by
    rcases ha with ⟨k, e2, hk2⟩ | h
    · have h1 := List.mem_singleton.mp (List.mem_of_getElem? hk2)
      have h2 : a = q := (Prod.mk.inj h1).1
      rw [h2]
      exact (va_D_iff.mp hD).2 _ (List.mem_append_right _ (List.mem_singleton.mpr rfl))
    · exact hA a (Nat.le_trans hS.1 h)
  have hcb : va_CN R s args mi.1 idx2 mi'.2.1 host mi'.2.2.1 mi'.2.2.2.1 none (am_tw mi') rm mc ms 0 := va_cnB 0 hts (am_twG hB) (show am_tw mi' = Cond.code mi'.2.1 mi'.2.2.1 mi'.2.2.2.1 none :: am_T from by unfold am_tw; rw [hret]) hrm.1 hrm.2.1 hnw (by rw [hB.2.2.1]; exact hts _ hB.1) hB.2.2.2.1 ⟨hrm.2.2.1, hrm.2.2.2⟩
  have hpre : ∀ U : State, U.heap = H → s.WarmedH U.vm → cn_Pc l (am_D K) (am_cA K) ci q H.size df ([.ref q] : List Value).toArray U := fun U hU hW => by
    subst hU
    refine ⟨rfl, rfl, va_P_mem.mpr fun x hx => ?_, va_K.moved hW.alike hKs, va_D_iff.mpr ⟨by simp, fun _ _ => trivial⟩, am_Fw_warm hW hFw⟩
    rw [List.mem_singleton.mp hx]
    exact hqm
  have hrun := va_runIN (b := q) (As := []) (rest := .ref q :: rest) (H := H) (g := F0 m (pc + 4) la (.ref q :: .ref q :: rest)) (cells := cells + 1) (slots := slots + N) (locs := locs) (e := e) (below := below) (meth := meth) (p := p)
    ⟨hx, hb, hml, hown, hts⟩ (hM q H.size) ⟨hcb, hnm, hts _ hiw⟩ ⟨cn_blind, hpre⟩ rfl rfl rfl rfl (lv_room (by rw [List.map_cons, List.sum_cons]; have : (Value.ref q).category = 1 := rfl; omega)) hd3 ⟨by omega, by omega⟩
  refine va_callv (A0 := A) (H0 := s.heap) (pc := pc + 4) hrun hS (fun a _ h => hAq a h) (fun a h => hAq a h) (fun ad1 t H1 locs1 ht hvm hpost hB1 hz1 hk1 hS1 => ?_)
  obtain ⟨hP1, hD1⟩ := hB1
  rw [ht] at hP1
  obtain ⟨hP2, hD2⟩ := cn_join hP hD hk1 hP1 hD1 hAq
  obtain ⟨hP3, hD3⟩ := cn_merge (l := l) (cA := am_cA K) (d := d) rfl hN h505 rfl hop hM1 hM2 hf hP2 hD2
  exact kk q ad1 H1 locs1 hpost hP3 hD3 hS1
theorem cn_objI {mi mi' : am_Mi} {host : String} {rm : Room} {idx idx2 ci N mc ms d : Nat} {C : String} {T : u_T} {ty0 : Nat → FieldType} {df : List Value} {NL : List am_L} (hx : p.tables.exec = Jvm.exec) (hb : c.code = cc) (hml : c.maxLocals = la.size) (hts : ∀ w ∈ am_T, w.before args s = true) (hown : s.vm.findClass mi.1 = some m.cls) (hKs : va_K (am_D K) vwCl (am_tys K) s) (hFw : am_Fw s)
    (hd1 : decode cc pc = .ok (.new idx, 3)) (hd2 : decode cc (pc + 3) = .ok (.dup, 1)) (hd3 : decode cc (pc + 4) = .ok (.invokespecial idx2, 3)) (hin : ∀ w ∈ u_ws C T N, w ∈ am_T) (hty : ∀ k, k < N → parseFieldDescriptor (T k).2.2.1 = some (ty0 k)) (hc : vwCl[ci]? = some (C, T, N)) (hcl : Cond.classLink mi.1 idx C ∈ am_T) (hinst : Cond.instantiable C N ∈ am_T) (hini : Cond.initialized C ∈ am_T) (hfs : ∀ j, j < N → defaultValue (ty0 j) = vp_V df j)
    (hlk : Cond.methodLink mi.1 idx2 mi'.2.1 ∈ am_T) (hiw : Cond.instanceMethod mi'.2.1 ∈ am_T) (hnm : mi'.2.1.name = "<init>") (hret : mi'.2.2.2.2 = none) (hB : am_CB mi' 0) (hM : ∀ h0 sz, Met l mi'.2.1 (am_tw mi') rm (cn_Pc l (am_D K) (am_cA K) ci h0 sz df) (cn_Qc l (am_D K) (am_cA K) ci h0 sz df NL) mc ms (va_A [(h0, .inr (ci, df))] sz))
    (hrm : rm.cells = mc ∧ rm.slots = ms ∧ rm.frames + 1 ≤ R.frames ∧ 8 + (mi'.2.2.2.1 + 11) + rm.locals ≤ R.locals) (hcells : cells + 1 + mc ≤ R.cells) (hslots : slots + N + ms ≤ R.slots) (hw : ((rest.map fun v => v.category).sum) ≤ 7)
    (hN : am_newok NL = true) (h505 : ∀ q ∈ NL, q.1 ≠ 505) (hop : ∀ j, am_opq K d j = .null) (hM1 : ∀ q ∈ NL, ∀ j, M.1 q.1 d q.2.2 j = am_M0.1 q.1 0 q.2.2 j) (hM2 : ∀ q ∈ NL, ∀ j, M.2 q.1 d q.2.2 j = am_M0.2 q.1 0 q.2.2 j) (hf : ∀ r ∈ am_dom K, r ∉ NL.map (am_ren d) ∧ ∀ c ∈ am_chs r, c ∉ NL.map (am_ren d))
    (hP : va_P (am_D K) vwCl (am_ws K M ++ ex) H) (hD : va_D A (am_ws K M ++ ex)) (hS : va_S A s.heap H locs) (hA : ∀ q, s.heap.size ≤ q → A q)
    (kk : ∀ (q : Nat) (ad1 : am_L → Nat) (H1 : Heap) (locs1 : List Loc), ad1 (ci, 0, 0) = q → va_P (am_D K) vwCl (am_ws (am_extN K NL d ad1) M ++ ex) H1 → va_D A (am_ws (am_extN K NL d ad1) M ++ ex) → va_S A s.heap H1 locs1 → W p l e R s m args below meth c H1 locs1 (cells + 1 + mc) (slots + N + ms) Q (F0 m (pc + 7) la (.ref q :: rest))) : W p l e R s m args below meth c H locs cells slots Q (F0 m pc la rest) := by
  refine va_new (ci := ci) (fs := df) (D := am_D K) (cl := vwCl) (tys := am_tys K) (A := A) (H0 := s.heap) (ws := am_ws K M ++ ex) (Ts := am_T) (own := mi.1) hx hb hts hin ty0 hty hown (hts _ hcl) (hts _ hinst) (hts _ hini) hKs hP hD hS hA hc hfs (by omega) (by omega) hd1 (fun q H hP hD hS => ?_)
  refine lv_dup hx hb hd2 rfl ?_
  have hqm := hP ((am_ws K M ++ ex).length) (q, .inr (ci, df)) (by rw [List.getElem?_append_right (Nat.le_refl _), Nat.sub_self]; rfl)
  have hAq : ∀ a, va_A [(q, .inr (ci, df))] H.size a → A a := fun a ha => by
    rcases ha with ⟨k, e2, hk2⟩ | h
    · have h1 := List.mem_singleton.mp (List.mem_of_getElem? hk2)
      have h2 : a = q := (Prod.mk.inj h1).1
      rw [h2]
      exact (va_D_iff.mp hD).2 _ (List.mem_append_right _ (List.mem_singleton.mpr rfl))
    · exact hA a (Nat.le_trans hS.1 h)
  have hcb : CallB R s args mi.1 idx2 mi'.2.1 mi'.2.2.1 mi'.2.2.2.1 none (am_tw mi') rm mc ms 0 := callB_of 0 hts (am_twG hB) (show am_tw mi' = Cond.code mi'.2.1 mi'.2.2.1 mi'.2.2.2.1 none :: am_T from by unfold am_tw; rw [hret]) hrm.1 hrm.2.1 (by rw [hB.2.2.1]; exact hts _ hB.1) (hts _ hlk) hB.2.2.2.1 ⟨hrm.2.2.1, hrm.2.2.2⟩
  have hpre : ∀ U : State, U.heap = H → s.WarmedH U.vm → cn_Pc l (am_D K) (am_cA K) ci q H.size df ([.ref q] : List Value).toArray U := fun U hU hW => by
    subst hU
    refine ⟨rfl, rfl, va_P_mem.mpr fun x hx => ?_, va_K.moved hW.alike hKs, va_D_iff.mpr ⟨by simp, fun _ _ => trivial⟩, am_Fw_warm hW hFw⟩
    rw [List.mem_singleton.mp hx]
    exact hqm
  have hrun := va_runI (b := q) (As := []) (rest := .ref q :: rest) (H := H) (g := F0 m (pc + 4) la (.ref q :: .ref q :: rest)) (cells := cells + 1) (slots := slots + N) (locs := locs) (e := e) (below := below) (meth := meth) (p := p)
    ⟨hx, hb, hml, hown, hts⟩ (hM q H.size) ⟨hcb, hnm, hts _ hiw⟩ ⟨cn_blind, hpre⟩ rfl rfl rfl rfl (lv_room (by rw [List.map_cons, List.sum_cons]; have : (Value.ref q).category = 1 := rfl; omega)) hd3 ⟨by omega, by omega⟩
  refine va_callv (A0 := A) (H0 := s.heap) (pc := pc + 4) hrun hS (fun a _ h => hAq a h) (fun a h => hAq a h) (fun ad1 t H1 locs1 ht hvm hpost hB1 hz1 hk1 hS1 => ?_)
  obtain ⟨hP1, hD1⟩ := hB1
  rw [ht] at hP1
  obtain ⟨hP2, hD2⟩ := cn_join hP hD hk1 hP1 hD1 hAq
  obtain ⟨hP3, hD3⟩ := cn_merge (l := l) (cA := am_cA K) (d := d) rfl hN h505 rfl hop hM1 hM2 hf hP2 hD2
  exact kk q ad1 H1 locs1 hpost hP3 hD3 hS1
end CNO
