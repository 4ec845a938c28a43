/-! contracts of methods that may make a reference object -/
theorem cl_5_8 : Cond.classLink RX5 8 RX5 ∈ am_T := am_Tt 1130 (by decide +kernel) rfl
theorem cl_L_10 : Cond.classLink RL 10 RX5 ∈ am_T := am_Tt 855 (by decide +kernel) rfl
theorem mk_5 : Cond.instantiable RX5 40 ∈ am_T := am_Tt 856 (by decide +kernel) rfl
theorem ini_5 : Cond.initialized RX5 ∈ am_T := am_Tt 6 (by decide +kernel) rfl
theorem inst_5 : Cond.instanceMethod yX5_init ∈ am_T := am_Tt 858 (by decide +kernel) rfl
theorem ml_5_371 : Cond.methodLink RX5 371 yX5_init ∈ am_T := am_Tt 1131 (by decide +kernel) rfl
theorem ml_L_12 : Cond.methodLink RL 12 yX5_init ∈ am_T := am_Tt 857 (by decide +kernel) rfl
theorem fp_X5_19 : am_FP 5 19 (.object "AlwaysAheadModel") := ⟨(RX5, TX5, 40), rfl, rfl, by decide +kernel⟩
theorem fp_X5_20 : am_FP 5 20 (.object "AlwaysAheadModel") := ⟨(RX5, TX5, 40), rfl, rfl, by decide +kernel⟩
def am_df5 : List Value := [.null, .null, .null, .null, .null, .null, .null, .null, .int 0, .null, .int 0, .null, .null, .null, .int 0, .null, .int 0, .null, .int 0, .null, .null, .int 0, .int 0, .int 0, .int 0, .int 0, .null, .int 0, .null, .int 0, .null, .null, .null, .null, .null, .null, .null, .null, .long 0, .int 0]
def am_A2 (K : am_K) (sz : Nat) : Nat → Prop := fun a => am_A K a ∨ sz ≤ a
def am_Pc2 (K : am_K) (as : List am_V) (M : am_M) (sz : Nat) : Array Value → State → Prop := va_Pc (as.map (am_v K)) (fun U => U.heap.size = sz ∧ am_ok K ∧ (∀ v ∈ as, am_vk K v) ∧ va_P (am_D K) vwCl (am_ws K M) U.heap ∧ va_K (am_D K) vwCl (am_tys K) U ∧ am_X K U ∧ am_Fw U)
def am_Q2 (K : am_K) (sz : Nat) (post : am_K → Option am_V → am_M → Prop) : Array Value → State → Outcome → State → Prop := fun _ st oc t =>
  (∃ (K' : am_K) (r : Option am_V) (M' : am_M), am_Ex K K' ∧ am_ok K' ∧ oc = .returned (r.map (am_v K')) ∧ post K' r M' ∧ (∀ v ∈ r, am_vk K' v) ∧ va_P (am_D K') vwCl (am_ws K' M') t.heap ∧ ∀ a, am_A K' a → am_A2 K sz a) ∧ va_F (am_A2 K sz) st t
def am_Met2 (K : am_K) (rm : Room) (mi : am_Mi) (as : List am_V) (M : am_M) (post : am_K → Option am_V → am_M → Prop) (mc ms : Nat) : Prop := ∀ sz, Met (am_l K) mi.2.1 (am_tw mi) rm (am_Pc2 K as M sz) (am_Q2 K sz post) mc ms (am_A2 K sz)
/-- a frame of such a method -/
def gv_M2 (F : gv_F) (K : am_K) (sz : Nat) (rm : Room) (mi : am_Mi) (post : am_K → Option am_V → am_M → Prop) (mc ms : Nat) : Prop :=
  F.2.2.1 = rm ∧ F.2.2.2.2.2.2.2.2.2.2 = am_A2 K sz ∧ F.2.2.2.1.heap.size = sz ∧ am_Fw F.2.2.2.1 ∧ F.2.2.2.2.2.2.2.2.2.1 = MQ F.2.2.2.2.2.2.1 (am_Q2 K sz post) F.2.2.2.2.2.1 F.2.2.2.1 mc ms (am_A2 K sz)
theorem am_Met2_of {K : am_K} {rm : Room} {n : Nat} {mi : am_Mi} {as : List am_V} {M : am_M} {post : am_K → Option am_V → am_M → Prop} {mc ms : Nat} (hB : am_CB mi n) (hlen : am_len as ≤ mi.2.2.2.1) (h : ∀ F sz, gv_M2 F K sz rm mi post mc ms → gv F mi K 0 0 0 (am_en 0 as) [] M) : am_Met2 K rm mi as M post mc ms := by
  intro sz
  refine Met.ofW (cc := mi.2.2.1) (maxL := mi.2.2.2.1) (ret := mi.2.2.2.2) hB.2.2.2.2.1 rfl ?_
  intro p e s m args below meth c s₁ B hml hv
  obtain ⟨rfl, hsz, hK, hak, hP, hKs, hX, hFw⟩ := hv
  have hts := atoms_spec (ws := am_tw mi) B.pre
  have hown : s.vm.findClass mi.1 = some m.cls := by rw [← hB.2.2.1]; exact findClass_of_methodNamed B.named
  have hl := lv_entry (as.map (am_v K)) (n := mi.2.2.2.1) (by rw [am_len_sl]; exact hlen)
  rw [lg_entry_eq]
  rw [am_en_args] at hl
  exact h (p, e, rm, s, m, (as.map (am_v K)).toArray, below, meth, c, MQ below (am_Q2 K sz post) (as.map (am_v K)).toArray s mc ms (am_A2 K sz), am_A2 K sz) sz ⟨rfl, rfl, hsz, hFw, rfl⟩ s.heap [] _ hK ⟨B.exec, B.bytes, B.returns, hml, hown, fun w hw => hts w (List.mem_cons_of_mem _ hw), B.notSynchronized, hKs, hX⟩ hP va_S.rf (fun a ha => Or.inl ha) hl (am_en_k hak) (fun v hv => absurd hv List.not_mem_nil)
section GVN
variable {F : gv_F} {K : am_K} {mi : am_Mi} {cells slots pc : Nat} {ls : List (Nat × am_V)} {st : List am_V} {M : am_M}
/-- making a reference object of number d -/
theorem gv_new5 {idx idx2 d : Nat} (hR : 2 ≤ F.2.2.1.frames ∧ 80 ≤ F.2.2.1.locals ∧ cells + 187 ≤ F.2.2.1.cells ∧ slots + 4694 ≤ F.2.2.1.slots) (hFw : am_Fw F.2.2.2.1) (hd1 : decode mi.2.2.1 pc = .ok (.new idx, 3)) (hd2 : decode mi.2.2.1 (pc + 3) = .ok (.dup, 1)) (hd3 : decode mi.2.2.1 (pc + 4) = .ok (.invokespecial idx2, 3)) (hcl : Cond.classLink mi.1 idx RX5 ∈ am_T) (hlk0 : Cond.methodLink mi.1 idx2 yX5_init ∈ am_T) (hnd : ∀ r ∈ am_dom K, ¬ (am_isM r.1 = true ∧ r.2.1 = d)) (hop : ∀ j, am_opq K d j = .null) (hA0 : ∀ q, F.2.2.2.1.heap.size ≤ q → F.2.2.2.2.2.2.2.2.2.2 q) (hA1 : ∀ a, F.2.2.2.2.2.2.2.2.2.2 a → am_A K a ∨ F.2.2.2.1.heap.size ≤ a) (hw : (st.map am_cat).sum ≤ 7)
    (kk : ∀ ad1 : am_L → Nat, am_Ex K (am_extN K am_dom_X5_init d ad1) → gv F mi (am_extN K am_dom_X5_init d ad1) (cells + 187) (slots + 4694) (pc + 7) ls (.inr (.inr (5, d, 0)) :: st) (am_rst M d)) : gv F mi K cells slots pc ls st M := by
  intro H locs la hK hI hP hS hA hl hlk hsk
  have hws := am_rst_ws (M := M) hnd
  refine cn_objI (K := K) (M := am_rst M d) (ex := []) (mi := mi) (mi' := m_X5_init) (host := "") (rm := { frames := 1, cells := 186, slots := 4654, locals := 60 }) (ci := 5) (N := 40) (mc := 186) (ms := 4654) (d := d) (C := RX5) (T := TX5) (ty0 := tyX5) (df := am_df5) (NL := am_dom_X5_init) (A := F.2.2.2.2.2.2.2.2.2.2) hI.1 hI.2.1 (hI.2.2.2.1.trans hl.1.symm) hI.2.2.2.2.2.1 hI.2.2.2.2.1 hI.2.2.2.2.2.2.2.1 hFw hd1 hd2 hd3 fi_X5 tyX5_ok rfl hcl mk_5 ini_5 (by decide +kernel) hlk0 inst_5 rfl rfl cb_X5_init (fun h0 sz => c_X5_init (am_l K) (am_D K) (am_cA K) h0 sz) ⟨rfl, rfl, hR.1, by show 8 + (1 + 11) + 60 ≤ _; exact hR.2.1⟩ hR.2.2.1 hR.2.2.2 (by rw [am_catS]; exact hw) am_N5ok am_N505 hop am_rst_M0.1 am_rst_M0.2 (am_freeM hK hnd) (by rw [hws, List.append_nil]; exact hP) (by rw [List.append_nil]; exact am_wsD0 hK _ hA) hS hA0 (fun q ad1 H1 locs1 hq hP1 hD1 hS1 => ?_)
  rw [List.append_nil] at hP1 hD1
  have hE := am_Ex_extM (ad1 := ad1) hK hnd
  have hok := am_ok_extM hK hnd hD1
  have hAn : ∀ a, am_A (am_extN K am_dom_X5_init d ad1) a → F.2.2.2.2.2.2.2.2.2.2 a := by
    intro a ⟨r, hr, e⟩
    rw [← e]
    exact (va_D_iff.mp hD1).2 (am_ad (am_extN K am_dom_X5_init d ad1) r, am_e (am_extN K am_dom_X5_init d ad1) (am_rst M d) r) (List.mem_map.mpr ⟨r, hr, rfl⟩)
  have hmem : (5, d, 0) ∈ am_dom (am_extN K am_dom_X5_init d ad1) := List.mem_append_right _ (List.mem_map.mpr ⟨(5, 0, 0), by decide +kernel, rfl⟩)
  have hq2 : am_ad (am_extN K am_dom_X5_init d ad1) (5, d, 0) = q := (am_ren_ad (p := (5, 0, 0)) (by decide +kernel) rfl).trans hq
  have k9 := kk ad1 hE H1 locs1 la hok (am_I_wider hE (fun a ha => hA1 a (hAn a ha)) hI) hP1 hS1 hAn (by rw [hE.ls hlk]; exact hl) (fun v hv => hE.vk (hlk v hv)) (am_cs (Or.inl hmem) (fun v hv => hE.vk (hsk v hv)))
  rw [List.map_cons, hE.st hsk] at k9
  have e9 : am_v (am_extN K am_dom_X5_init d ad1) (.inr (.inr (5, d, 0))) = .ref q := congrArg Value.ref hq2
  rw [e9] at k9
  exact k9
/-- the end of such a method -/
theorem gv_ret2 {K0 : am_K} {sz : Nat} {rm : Room} {post : am_K → Option am_V → am_M → Prop} {mc ms : Nat} {x : Int32} (hF : gv_M2 F K0 sz rm mi post mc ms) (hE : am_Ex K0 K) (hc : cells ≤ mc) (hs : slots ≤ ms) (hd : decode mi.2.2.1 pc = .ok (.ireturn, 1)) (hr : mi.2.2.2.2 = some .int) (h : post K (some (.inl x)) M) : gv F mi K cells slots pc ls [.inl x] M := by
  intro H locs la hK hI hP hS hA hl hlk hsk
  obtain ⟨f1, f2, f3, f4, f5⟩ := hF
  rw [f5]
  rw [f2] at hS hA
  refine W.widen hc hs ?_
  exact W.iret (v := x) hI.1 hI.2.1 (hI.2.2.1.trans hr) (fun t ht hW => ⟨⟨K, some (.inl x), M, hE, hK, rfl, h, (fun v hv => by cases hv; trivial), by rw [ht]; exact hP, hA⟩, hS.F ht⟩) hS.2.2 hd hI.2.2.2.2.2.2.1
theorem gv_ret2r {K0 : am_K} {sz : Nat} {rm : Room} {post : am_K → Option am_V → am_M → Prop} {mc ms : Nat} {q : am_L} {rt : String} (hF : gv_M2 F K0 sz rm mi post mc ms) (hE : am_Ex K0 K) (hc : cells ≤ mc) (hs : slots ≤ ms) (hd : decode mi.2.2.1 pc = .ok (.areturn, 1)) (hr : mi.2.2.2.2 = some (.object rt)) (h : post K (some (.inr (.inr q))) M) : gv F mi K cells slots pc ls [.inr (.inr q)] M := by
  intro H locs la hK hI hP hS hA hl hlk hsk
  obtain ⟨f1, f2, f3, f4, f5⟩ := hF
  rw [f5]
  rw [f2] at hS hA
  refine W.widen hc hs ?_
  exact W.aret (v := .ref (am_ad K q)) hI.1 hI.2.1 (hI.2.2.1.trans hr) (Or.inl ⟨_, rfl⟩) (Or.inr ⟨_, rfl⟩) (fun t ht hW => ⟨⟨K, some (.inr (.inr q)), M, hE, hK, rfl, h, (fun v hv => by cases hv; exact hsk _ List.mem_cons_self), by rw [ht]; exact hP, hA⟩, hS.F ht⟩) hS.2.2 hd hI.2.2.2.2.2.2.1
/-- a call of such a method -/
theorem gv_callM {idx n ci N mc ms : Nat} {k o i : Nat} {f : Nat → am_F} {as sk : List am_V} {mi' : am_Mi} {rm : Room} {post' : am_K → Option am_V → am_M → Prop} (hold : gv_old F K) (hFw : am_Fw F.2.2.2.1) (hrm : rm.cells = mc ∧ rm.slots = ms ∧ rm.frames + 1 ≤ F.2.2.1.frames ∧ 8 + (mi'.2.2.2.1 + 11) + rm.locals ≤ F.2.2.1.locals) (hcs : cells + mc ≤ F.2.2.1.cells ∧ slots + ms ≤ F.2.2.1.slots) (hA0 : ∀ q, F.2.2.2.1.heap.size ≤ q → F.2.2.2.2.2.2.2.2.2.2 q) (hA1 : ∀ a, F.2.2.2.2.2.2.2.2.2.2 a → am_A K a ∨ F.2.2.2.1.heap.size ≤ a) (hd : decode mi.2.2.1 pc = .ok (.invokevirtual idx, 3)) (hc : am_CV mi.1 idx mi') (hB : am_CB mi' n) (hs : am_sh k = .inl (ci, N, f)) (hci : (vwCl[ci]?).map (fun q => q.1) = some mi'.1) (hk : k < 9000) (hn : as.length = n) (hst : sk = as.reverse ++ .inr (.inr (k, o, i)) :: st) (hw : (st.map am_cat).sum ≤ 8)
    (hM : am_Met2 K rm mi' (.inr (.inr (k, o, i)) :: as) M post' mc ms) (kk : ∀ K' r M', am_Ex K K' → post' K' r M' → gv F mi K' (cells + mc) (slots + ms) (pc + 3) ls (r.toList ++ st) M') : gv F mi K cells slots pc ls sk M := by
  intro H locs la hK hI hP hS hA hl hlk hsk
  subst hst
  have hskA : ∀ v ∈ as, am_vk K v := fun v hv => hsk v (List.mem_append_left _ (List.mem_reverse.mpr hv))
  have hskR : am_vk K (.inr (.inr (k, o, i))) := hsk _ (List.mem_append_right _ List.mem_cons_self)
  have hskS : ∀ v ∈ st, am_vk K v := fun v hv => hsk v (List.mem_append_right _ (List.mem_cons_of_mem _ hv))
  obtain ⟨q0, hq0⟩ := am_place (am_in hk hskR)
  have he := am_wsK M hq0
  rw [am_e_obj hs] at he
  obtain ⟨q, hq1, hq2⟩ : ∃ q, vwCl[ci]? = some q ∧ q.1 = mi'.1 := by
    cases hz : vwCl[ci]? with
    | none => rw [hz] at hci; cases hci
    | some q => rw [hz] at hci; exact ⟨q, rfl, Option.some.inj hci⟩
  have hrecv := va_recv hI.2.2.2.2.2.2.2.1 hP hq1 he
  rw [hq2] at hrecv
  have ht := hI.2.2.2.2.2.1
  have hcb : CallB F.2.2.1 F.2.2.2.1 F.2.2.2.2.2.1 mi.1 idx mi'.2.1 mi'.2.2.1 mi'.2.2.2.1 mi'.2.2.2.2 (am_tw mi') rm mc ms n :=
    callB_of n ht (am_twG hB) rfl hrm.1 hrm.2.1 (by rw [hB.2.2.1]; exact ht _ hB.1) (ht _ hc.1) hB.2.2.2.1 ⟨hrm.2.2.1, hrm.2.2.2⟩
  have hbl : FrameBlind (am_Pc2 K (.inr (.inr (k, o, i)) :: as) M H.size) := fun a U g mk q => by
    obtain ⟨q0, q1, q2, q3, q4, q5, q6, q7⟩ := q
    exact ⟨q0, q1, q2, q3, q4, va_K.moved (u := U) (U := U.calling g mk a) (Vm.Alike.refl U.vm) q5, am_X_call g mk a q6, am_Fw_call g mk a q7⟩
  have hpre : ∀ U : State, U.heap = H → F.2.2.2.1.WarmedH U.vm → am_Pc2 K (.inr (.inr (k, o, i)) :: as) M H.size (Value.ref (am_ad K (k, o, i)) :: as.map (am_v K)).toArray U := fun U hU hW => by
    have hx := hold H locs hS hI.2.2.2.2.2.2.2.2 U hU hW
    subst hU
    exact ⟨rfl, rfl, hK, am_cs hskR hskA, hP, va_K.moved hW.alike hI.2.2.2.2.2.2.2.1, hx, am_Fw_warm hW hFw⟩
  have hrun := va_runV (b := am_ad K (k, o, i)) (C := mi'.1) (As := as.map (am_v K)) (rest := st.map (am_v K)) (H := H) (g := F0 F.2.2.2.2.1 pc la ((as.reverse ++ .inr (.inr (k, o, i)) :: st).map (am_v K))) (cells := cells) (slots := slots) (locs := locs) (e := F.2.1) (below := F.2.2.2.2.2.2.1) (meth := F.2.2.2.2.2.2.2.1) (p := F.1)
    ⟨hI.1, hI.2.1, hI.2.2.2.1, hI.2.2.2.2.1, ht⟩ (hM H.size) ⟨hcb, ht _ hc.2.1, ht _ hc.2.2⟩ ⟨hbl, hrecv, hpre⟩ rfl (by rw [List.length_map]; exact hn) hl.1 (by rw [List.map_append, List.map_reverse]; rfl) (lv_room (by rw [am_catS]; exact hw)) hd hcs
  intro T hT X
  obtain ⟨v, st₀, t, T', L, h0, X', hL, e1, e2, ⟨⟨K', r, M', hE, hok, hv, hp, hrk, hb, hAA⟩, hz, hk9⟩, stp⟩ := hrun T hT X
  have hv' : v = r.map (am_v K') := by injection hv
  subst hv'
  rw [h0] at hz hk9
  have hA2 : ∀ a, am_A2 K H.size a → F.2.2.2.2.2.2.2.2.2.2 a := fun a ha => ha.elim (hA a) (fun h => hA0 a (Nat.le_trans hS.1 h))
  have hS1 : va_S F.2.2.2.2.2.2.2.2.2.2 F.2.2.2.1.heap T'.heap (locs ++ L) := ⟨Nat.le_trans hS.1 (by rw [e1]; exact hz), fun q h1 h2 => by rw [e1, hk9 q (Nat.lt_of_lt_of_le h1 hS.1) (fun z => h2 (hA2 q z))]; exact hS.2.1 q h1 h2, fun q hq => by
      rcases List.mem_append.mp hq with h | h
      · exact hS.2.2 q h
      · exact hA2 _ (hL q h)⟩
  have hAn : ∀ a, am_A K' a → F.2.2.2.2.2.2.2.2.2.2 a := fun a ha => hA2 a (hAA a ha)
  obtain ⟨t2, a1, b1⟩ := kk K' r M' hE hp T'.heap (locs ++ L) la hok (am_I_wider hE (fun a ha => hA1 a (hAn a ha)) hI) (by rw [e1]; exact hb) hS1 hAn (by rw [hE.ls hlk]; exact hl) (fun v hv => hE.vk (hlk v hv)) (fun w hw => by
      rcases List.mem_append.mp hw with h | h
      · exact hrk w (by cases r with | none => cases h | some r0 => exact (by rw [List.mem_singleton.mp h]; rfl))
      · exact hE.vk (hskS w h)) T' rfl (by rw [show am_l K' = am_l K from hE.1]; exact X')
  refine ⟨t2, stp t2 ?_, b1⟩
  have e9 : (r.toList ++ st).map (am_v K') = (r.map (am_v K')).toList ++ st.map (am_v K) := by
    rw [List.map_append, hE.st hskS]
    cases r <;> rfl
  rw [e9] at a1
  exact a1
end GVN
