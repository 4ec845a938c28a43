/-! calls -/
/-- what a callee's words say -/
def am_CB (mi : am_Mi) (n : Nat) : Prop := Cond.initialized mi.1 ∈ am_T ∧ Cond.code mi.2.1 mi.2.2.1 mi.2.2.2.1 mi.2.2.2.2 ∈ am_T ∧ mi.2.1.cls = mi.1 ∧ (mi.2.1.cls ≠ "java/lang/invoke/MethodHandle" ∧ mi.2.1.cls ≠ "java/lang/invoke/VarHandle" ∧ (parseMethodDescriptor mi.2.1.desc).map (fun d => d.parameters.length) = some n) ∧ plainName mi.2.1.cls = true ∧ mi.2.2.2.1 ≤ 41
def am_CV (own : String) (idx : Nat) (mi : am_Mi) : Prop := Cond.methodLink own idx mi.2.1 ∈ am_T ∧ Cond.instanceMethod mi.2.1 ∈ am_T ∧ Cond.selects mi.1 mi.2.1 mi.2.1 ∈ am_T
def am_CS (own : String) (idx : Nat) (mi : am_Mi) : Prop := Cond.methodLink own idx mi.2.1 ∈ am_T ∧ Cond.static mi.2.1 ∈ am_T
theorem am_twG {mi : am_Mi} {n : Nat} (h : am_CB mi n) : GoodIn am_T (am_tw mi) := fun w hw => by
  rcases List.mem_cons.mp hw with e | e
  · exact am_Tg w (e ▸ h.2.1)
  · exact am_Tg w e
def am_en : Nat → List am_V → List (Nat × am_V)
  | _, [] => []
  | i, v :: vs => (i, v) :: am_en (i + am_cat v) vs
theorem am_en_args (K : am_K) : ∀ (vs : List am_V) (i : Nat), lv_args i (vs.map (am_v K)) = am_ls K (am_en i vs)
  | [], _ => rfl
  | v :: vs, i => by
    show (i, am_v K v) :: lv_args (if (am_v K v).category = 2 then i + 2 else i + 1) (vs.map (am_v K)) = (i, am_v K v) :: am_ls K (am_en (i + am_cat v) vs)
    rw [am_en_args K vs, am_cat_v]
    rcases v with x | y | q <;> rfl
theorem am_en_k {K : am_K} : ∀ {vs : List am_V} {i : Nat}, (∀ v ∈ vs, am_vk K v) → ∀ q ∈ am_en i vs, am_vk K q.2
  | [], _, _, q, hq => absurd hq List.not_mem_nil
  | v :: vs, i, h, q, hq => by
    rcases List.mem_cons.mp hq with e | e
    · rw [e]; exact h v List.mem_cons_self
    · exact am_en_k (fun w hw => h w (List.mem_cons_of_mem _ hw)) q e
def am_len : List am_V → Nat
  | [] => 0
  | v :: vs => am_cat v + am_len vs
theorem am_len_sl (K : am_K) : ∀ vs : List am_V, (lg_sl (vs.map (am_v K))).length = am_len vs
  | [] => rfl
  | v :: vs => by
    have h := am_len_sl K vs
    unfold lg_sl at h ⊢
    rw [List.map_cons, List.flatMap_cons, List.length_append, h, am_cat_v]
    rcases v with x | y | q <;> rfl
/-- a contract out of the walk of the method's body -/
theorem am_Met_of {K : am_K} {d n : Nat} {mi : am_Mi} {as : List am_V} {M : am_M} {post : Option am_V → am_M → Prop} (hB : am_CB mi n) (hlen : am_len as ≤ mi.2.2.2.1) (h : am_W K d mi 0 (am_en 0 as) [] M post) : am_Met K d mi as M post := by
  refine Met.ofW (cc := mi.2.2.1) (maxL := mi.2.2.2.1) (ret := mi.2.2.2.2) hB.2.2.2.2.1 rfl ?_
  intro p e s m args below meth c s₁ B hml hv
  obtain ⟨rfl, hK, hak, hP, hKs, hX⟩ := hv
  have hts := atoms_spec (ws := am_tw mi) B.pre
  have hown : s.vm.findClass mi.1 = some m.cls := by rw [← hB.2.2.1]; exact findClass_of_methodNamed B.named
  have hl := lv_entry (as.map (am_v K)) (n := mi.2.2.2.1) (by rw [am_len_sl]; exact hlen)
  rw [lg_entry_eq]
  rw [am_en_args] at hl
  exact h p e s m _ below meth c s.heap [] _ hK ⟨B.exec, B.bytes, B.returns, hml, hown, fun w hw => hts w (List.mem_cons_of_mem _ hw), B.notSynchronized, hKs, hX⟩ hP va_S.rf hl (am_en_k hak) (fun v hv => absurd hv List.not_mem_nil)
section AMC
variable {K : am_K} {d : Nat} {mi : am_Mi} {pc : Nat} {ls : List (Nat × am_V)} {st : List am_V} {M : am_M} {post : Option am_V → am_M → Prop}
theorem am_catS (K : am_K) : ∀ st : List am_V, (((st.map (am_v K)).map fun v => v.category).sum) = (st.map am_cat).sum
  | [] => rfl
  | v :: st => by
    rw [List.map_cons, List.map_cons, List.sum_cons, List.map_cons, List.sum_cons, am_catS K st, am_cat_v]
theorem am_blind {K : am_K} {as : List am_V} {M : am_M} : FrameBlind (am_Pc K as M) := fun a U g mk q => by
  obtain ⟨q0, q1, q2, q3, q4, q5⟩ := q
  exact ⟨q0, q1, q2, q3, va_K.moved (u := U) (U := U.calling g mk a) (Vm.Alike.refl U.vm) q4, am_X_call g mk a q5⟩
/-- behind a call -/
theorem am_after {p : Program} {e : Env} {s : State} {m : MethodId} {args : Array Value} {below : List Frame} {meth : Method} {c : Code} {H : Heap} {locs : List Loc} {la : Array Slot} {st0 : List Value} {a : Array Value} {post' : Option am_V → am_M → Prop}
    (hr : va_Run p (am_l K) e (am_R (d + 1)) s m args below meth c H locs 0 0 0 0 (F0 m pc la st0) (st.map (am_v K)) (am_Q K post' a) (am_A K)) (hK : am_ok K) (hI : am_I K mi p s m args meth c) (hS : va_S (am_A K) s.heap H locs) (hl : lv_has la mi.2.2.2.1 (am_ls K ls)) (hlk : ∀ q ∈ ls, am_vk K q.2) (hsk : ∀ v ∈ st, am_vk K v)
    (kk : ∀ r M', post' r M' → am_W K (d + 1) mi (pc + 3) ls (r.toList ++ st) M' post) :
    W p (am_l K) e (am_R (d + 1)) s m args below meth c H locs 0 0 (MQ below (am_Q K post) args s 0 0 (am_A K)) (F0 m pc la st0) := by
  intro T hT X
  obtain ⟨v, st₀, t, T', L, h0, X', hL, e1, e2, ⟨⟨r, M', hv, hp, hrk, hb⟩, hz, hk⟩, stp⟩ := hr T hT X
  have hv' : v = r.map (am_v K) := by injection hv
  subst hv'
  rw [h0] at hz hk
  have hS1 : va_S (am_A K) s.heap T'.heap (locs ++ L) := ⟨Nat.le_trans hS.1 (by rw [e1]; exact hz), fun q h1 h2 => by rw [e1, hk q (Nat.lt_of_lt_of_le h1 hS.1) h2]; exact hS.2.1 q h1 h2, fun q hq => by
      rcases List.mem_append.mp hq with h | h
      · exact hS.2.2 q h
      · exact hL q h⟩
  obtain ⟨t2, a1, b1⟩ := kk r M' hp p e s m args below meth c T'.heap (locs ++ L) la hK hI (by rw [e1]; exact hb) hS1 hl hlk (fun w hw => by
      rcases List.mem_append.mp hw with h | h
      · exact hrk w (by cases r with | none => cases h | some r0 => exact (by rw [List.mem_singleton.mp h]; rfl))
      · exact hsk w h) T' rfl X'
  refine ⟨t2, stp t2 ?_, b1⟩
  have e9 : (r.toList ++ st).map (am_v K) = (r.map (am_v K)).toList ++ st.map (am_v K) := by cases r <;> rfl
  rw [e9] at a1
  exact a1
theorem am_pre {p : Program} {s : State} {m : MethodId} {args : Array Value} {meth : Method} {c : Code} {H : Heap} {locs : List Loc} {as : List am_V} (hK : am_ok K) (hI : am_I K mi p s m args meth c) (hP : va_P (am_D K) vwCl (am_ws K M) H) (hS : va_S (am_A K) s.heap H locs) (hk : ∀ v ∈ as, am_vk K v) : ∀ U : State, U.heap = H → s.WarmedH U.vm → am_Pc K as M (as.map (am_v K)).toArray U := fun U hU hW => by
  subst hU
  exact ⟨rfl, hK, hk, hP, va_K.moved hW.alike hI.2.2.2.2.2.2.2.1, am_X_next hW hS hI.2.2.2.2.2.2.2.2⟩
theorem am_rm {mi' : am_Mi} (h : mi'.2.2.2.1 ≤ 41) : (am_R d).frames + 1 ≤ (am_R (d + 1)).frames ∧ 8 + (mi'.2.2.2.1 + 11) + (am_R d).locals ≤ (am_R (d + 1)).locals := ⟨Nat.le_refl _, by show 8 + (mi'.2.2.2.1 + 11) + 60 * d ≤ 60 * (d + 1); omega⟩
theorem am_callV {idx n ci N : Nat} {k o i : Nat} {f : Nat → am_F} {as sk : List am_V} {mi' : am_Mi} {post' : Option am_V → am_M → Prop} (hd : decode mi.2.2.1 pc = .ok (.invokevirtual idx, 3)) (hc : am_CV mi.1 idx mi') (hB : am_CB mi' n) (hs : am_sh k = .inl (ci, N, f)) (hci : (vwCl[ci]?).map (fun q => q.1) = some mi'.1) (hk : k < 9000) (hn : as.length = n) (hst : sk = as.reverse ++ .inr (.inr (k, o, i)) :: st) (hw : (st.map am_cat).sum ≤ 8)
    (hM : am_Met K d mi' (.inr (.inr (k, o, i)) :: as) M post') (kk : ∀ r M', post' r M' → am_W K (d + 1) mi (pc + 3) ls (r.toList ++ st) M' post) : am_W K (d + 1) mi pc ls sk M post := by
  intro p e s m args below meth c H locs la hK hI hP hS hl hlk hsk
  subst hst
  have hskA : ∀ v ∈ as, am_vk K v := fun v hv => hsk v (List.mem_append_left _ (List.mem_reverse.mpr hv))
  have hskR : am_vk K (.inr (.inr (k, o, i))) := hsk _ (List.mem_append_right _ List.mem_cons_self)
  have hskS : ∀ v ∈ st, am_vk K v := fun v hv => hsk v (List.mem_append_right _ (List.mem_cons_of_mem _ hv))
  obtain ⟨q0, hq0⟩ := am_place (am_in hk hskR)
  have he := am_wsK M hq0
  rw [am_e_obj hs] at he
  obtain ⟨q, hq1, hq2⟩ : ∃ q, vwCl[ci]? = some q ∧ q.1 = mi'.1 := by
    cases hz : vwCl[ci]? with
    | none => rw [hz] at hci; cases hci
    | some q => rw [hz] at hci; exact ⟨q, rfl, Option.some.inj hci⟩
  have hrecv := va_recv hI.2.2.2.2.2.2.2.1 hP hq1 he
  rw [hq2] at hrecv
  have ht := hI.2.2.2.2.2.1
  have hcb : CallB (am_R (d + 1)) s args mi.1 idx mi'.2.1 mi'.2.2.1 mi'.2.2.2.1 mi'.2.2.2.2 (am_tw mi') (am_R d) 0 0 n :=
    callB_of n ht (am_twG hB) rfl rfl rfl (by rw [hB.2.2.1]; exact ht _ hB.1) (ht _ hc.1) hB.2.2.2.1 (am_rm hB.2.2.2.2.2)
  have hrun := va_runV (b := am_ad K (k, o, i)) (C := mi'.1) (As := as.map (am_v K)) (rest := st.map (am_v K)) (g := F0 m pc la ((as.reverse ++ .inr (.inr (k, o, i)) :: st).map (am_v K))) (cells := 0) (slots := 0) (locs := locs) (e := e) (below := below) (meth := meth)
    ⟨hI.1, hI.2.1, hI.2.2.2.1, hI.2.2.2.2.1, ht⟩ hM ⟨hcb, ht _ hc.2.1, ht _ hc.2.2⟩ ⟨am_blind, hrecv, am_pre (as := .inr (.inr (k, o, i)) :: as) hK hI hP hS (am_cs hskR hskA)⟩ rfl (by rw [List.length_map]; exact hn) hl.1 (by rw [List.map_append, List.map_reverse]; rfl) (lv_room (by rw [am_catS]; exact hw)) hd ⟨Nat.le_refl _, Nat.le_refl _⟩
  exact am_after hrun hK hI hS hl hlk hskS kk
theorem am_callS {idx n : Nat} {as sk : List am_V} {mi' : am_Mi} {post' : Option am_V → am_M → Prop} (hd : decode mi.2.2.1 pc = .ok (.invokestatic idx, 3)) (hc : am_CS mi.1 idx mi') (hB : am_CB mi' n) (hn : as.length = n) (hst : sk = as.reverse ++ st) (hw : (st.map am_cat).sum ≤ 8)
    (hM : am_Met K d mi' as M post') (kk : ∀ r M', post' r M' → am_W K (d + 1) mi (pc + 3) ls (r.toList ++ st) M' post) : am_W K (d + 1) mi pc ls sk M post := by
  intro p e s m args below meth c H locs la hK hI hP hS hl hlk hsk
  subst hst
  have hskA : ∀ v ∈ as, am_vk K v := fun v hv => hsk v (List.mem_append_left _ (List.mem_reverse.mpr hv))
  have hskS : ∀ v ∈ st, am_vk K v := fun v hv => hsk v (List.mem_append_right _ hv)
  have ht := hI.2.2.2.2.2.1
  have hcb : CallB (am_R (d + 1)) s args mi.1 idx mi'.2.1 mi'.2.2.1 mi'.2.2.2.1 mi'.2.2.2.2 (am_tw mi') (am_R d) 0 0 n :=
    callB_of n ht (am_twG hB) rfl rfl rfl (by rw [hB.2.2.1]; exact ht _ hB.1) (ht _ hc.1) hB.2.2.2.1 (am_rm hB.2.2.2.2.2)
  have hrun := va_runS (As := as.map (am_v K)) (rest := st.map (am_v K)) (g := F0 m pc la ((as.reverse ++ st).map (am_v K))) (cells := 0) (slots := 0) (locs := locs) (e := e) (below := below) (meth := meth)
    ⟨hI.1, hI.2.1, hI.2.2.2.1, hI.2.2.2.2.1, ht⟩ hM ⟨hcb, ht _ hc.2⟩ ⟨am_blind, am_pre hK hI hP hS hskA⟩ rfl (by rw [List.length_map]; exact hn) hl.1 (by rw [List.map_append, List.map_reverse]) (lv_room (by rw [am_catS]; exact hw)) hd ⟨Nat.le_refl _, Nat.le_refl _⟩
  exact am_after hrun hK hI hS hl hlk hskS kk
/-- a nest mate's private static method -/
theorem am_callN {idx n : Nat} {as sk : List am_V} {mi' : am_Mi} {host : String} {post' : Option am_V → am_M → Prop} (hd : decode mi.2.2.1 pc = .ok (.invokestatic idx, 3)) (hc : ∀ U, am_X K U → va_Nw (.methodLinkNest mi.1 idx mi'.2.1 host) U) (hc2 : Cond.static mi'.2.1 ∈ am_T) (hB : am_CB mi' n) (hn : as.length = n) (hst : sk = as.reverse ++ st) (hw : (st.map am_cat).sum ≤ 8)
    (hM : am_Met K d mi' as M post') (kk : ∀ r M', post' r M' → am_W K (d + 1) mi (pc + 3) ls (r.toList ++ st) M' post) : am_W K (d + 1) mi pc ls sk M post := by
  intro p e s m args below meth c H locs la hK hI hP hS hl hlk hsk
  subst hst
  have hskA : ∀ v ∈ as, am_vk K v := fun v hv => hsk v (List.mem_append_left _ (List.mem_reverse.mpr hv))
  have hskS : ∀ v ∈ st, am_vk K v := fun v hv => hsk v (List.mem_append_right _ hv)
  have ht := hI.2.2.2.2.2.1
  have hcb : va_CN (am_R (d + 1)) s args mi.1 idx mi'.2.1 host mi'.2.2.1 mi'.2.2.2.1 mi'.2.2.2.2 (am_tw mi') (am_R d) 0 0 n :=
    va_cnB n ht (am_twG hB) rfl rfl rfl (hc s hI.2.2.2.2.2.2.2.2) (by rw [hB.2.2.1]; exact ht _ hB.1) hB.2.2.2.1 (am_rm hB.2.2.2.2.2)
  have hrun := va_runSN (As := as.map (am_v K)) (rest := st.map (am_v K)) (g := F0 m pc la ((as.reverse ++ st).map (am_v K))) (cells := 0) (slots := 0) (locs := locs) (e := e) (below := below) (meth := meth)
    ⟨hI.1, hI.2.1, hI.2.2.2.1, hI.2.2.2.2.1, ht⟩ hM ⟨hcb, ht _ hc2, trivial⟩ ⟨am_blind, am_pre hK hI hP hS hskA⟩ rfl (by rw [List.length_map]; exact hn) hl.1 (by rw [List.map_append, List.map_reverse]) (lv_room (by rw [am_catS]; exact hw)) hd ⟨Nat.le_refl _, Nat.le_refl _⟩
  exact am_after hrun hK hI hS hl hlk hskS kk
end AMC
