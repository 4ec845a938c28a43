theorem va_D_iff {A : Nat → Prop} {ws : va_W} : va_D A ws ↔ (ws.map (fun x => x.1)).Nodup ∧ ∀ x ∈ ws, A x.1 := by
  constructor
  · intro h
    refine ⟨?_, fun x hx => ?_⟩
    · rw [List.nodup_iff_pairwise_ne, List.pairwise_iff_getElem]
      intro i j hi hj hij he
      rw [List.getElem_map, List.getElem_map] at he
      have hi' : i < ws.length := by rw [List.length_map] at hi; exact hi
      have hj' : j < ws.length := by rw [List.length_map] at hj; exact hj
      have := h.1 i j ws[i] ws[j] (List.getElem?_eq_getElem hi') (List.getElem?_eq_getElem hj') he
      omega
    · obtain ⟨k, hk⟩ := List.getElem?_of_mem hx
      exact h.2 k x hk
  · intro h
    refine ⟨fun i j x y hi hj hxy => ?_, fun k x hk => h.2 x (List.mem_of_getElem? hk)⟩
    have hl : i < (ws.map (fun x => x.1)).length := by rw [List.length_map]; exact (List.getElem?_eq_some_iff.mp hi).1
    exact (List.getElem?_inj hl h.1).mp (by rw [List.getElem?_map, List.getElem?_map, hi, hj]; exact congrArg some hxy)
theorem va_D_perm {A : Nat → Prop} {ws ws' : va_W} (h : va_D A ws) (hp : (ws.map (fun x => x.1)).Perm (ws'.map (fun x => x.1))) : va_D A ws' := by
  obtain ⟨h1, h2⟩ := va_D_iff.mp h
  refine va_D_iff.mpr ⟨hp.nodup_iff.mp h1, fun x hx => ?_⟩
  obtain ⟨y, hy, e⟩ := List.mem_map.mp (hp.mem_iff.mpr (List.mem_map.mpr ⟨x, hx, rfl⟩))
  rw [← e]
  exact h2 y hy
theorem va_perm4 {α : Type} (a e q r : List α) : (((a ++ e) ++ q) ++ r).Perm (((a ++ r) ++ q) ++ e) := by
  rw [List.append_assoc, List.append_assoc, List.append_assoc, List.append_assoc]
  refine List.Perm.append_left a ?_
  refine List.perm_append_comm.trans ?_
  rw [← List.append_assoc r q e]
  exact List.perm_append_comm.append_right e
section CNR
variable {p : Program} {l : Launch} {e : Env} {R : Room} {s : State} {m : MethodId} {args : Array Value} {below : List Frame} {meth : Method} {c : Code} {H : Heap} {locs : List Loc} {cells slots : Nat} {Q : State → Prop}
variable {cc : ByteArray} {pc : Nat} {la : Array Slot} {rest : List Value} {A : Nat → Prop} {K : am_K} {M : am_M} {ex : va_W}
/-- one new row of numbers -/
theorem cn_new1 {atype : ArrayType} {t n k : Nat} {nn : Int32} {x0 : vp_A} (hx : p.tables.exec = Jvm.exec) (hb : c.code = cc) (hd : decode cc pc = .ok (.newarray atype, 2)) (harr : (Cond.arrayClass (newarray.typeOf atype)).before args s = true) (hKs : va_K (am_D K) vwCl (am_tys K) s) (ht : (am_tys K)[t]? = some (am_cA K t, newarray.typeOf atype)) (hprim : va_RA s (am_cA K t) (newarray.typeOf atype) → s.vm.findClass ("[" ++ (newarray.typeOf atype).toString) = some (am_cA K t))
    (he : ∀ q, am_e (am_ext K (k, 0, 0) q) M (k, 0, 0) = .inl (am_cA K t, x0)) (hz : ∀ cA, vp_cell cA x0 = arrV cA n (fun _ => defaultValue (newarray.typeOf atype))) (hfree : ∀ r ∈ am_dom K, r ≠ (k, 0, 0) ∧ am_apart r (k, 0, 0) = true) (hn : ¬ nn < 0) (hN : nn.toNatClampNeg = n) (hbytes : n * componentBytes (newarray.typeOf atype) ≤ 536870912) (hcells : cells + 1 ≤ R.cells) (hslots : slots + n ≤ R.slots)
    (hP : va_P (am_D K) vwCl (am_ws K M ++ ex) H) (hD : va_D A (am_ws K M ++ ex)) (hS : va_S A s.heap H locs) (hA : ∀ q, s.heap.size ≤ q → A q)
    (kk : ∀ (q : Nat) (H1 : Heap), va_P (am_D K) vwCl (am_ws (am_ext K (k, 0, 0) q) M ++ ex) H1 → va_D A (am_ws (am_ext K (k, 0, 0) q) M ++ ex) → va_S A s.heap H1 locs → W p l e R s m args below meth c H1 locs (cells + 1) (slots + n) Q (F0 m (pc + 2) la (.ref q :: rest))) : W p l e R s m args below meth c H locs cells slots Q (F0 m pc la (.int nn :: rest)) := by
  refine va_newaK (g := F0 m pc la (.int nn :: rest)) hx hb harr rfl hd rfl hn hN hbytes hcells hslots rfl (fun H' cA h1 h2 h3 h4 h5 => ?_)
  have hcA : cA = am_cA K t := Option.some.inj (h5.symm.trans (hprim (hKs.2 t _ ht).2))
  subst hcA
  have hP0 : va_P (am_D K) vwCl (am_ws K M ++ ex) H' := hP.kept (fun k9 y hy => h3 y.1 ((hP k9 y hy).lt))
  have hnew : va_at (am_D K) vwCl (H.size, .inl (am_cA K t, x0)) H' := by
    show H'[H.size]? = some (vp_cell _ _)
    rw [h1, hz]
  have hP1 : va_P (am_D K) vwCl ((am_ws K M ++ ex) ++ [(H.size, .inl (am_cA K t, x0))]) H' := hP0.app (va_P_mem.mpr fun y hy => by rw [List.mem_singleton.mp hy]; exact hnew)
  have hD1 : va_D A ((am_ws K M ++ ex) ++ [(H.size, .inl (am_cA K t, x0))]) := hD.push hP rfl (hA _ hS.1)
  have hP2 := va_P.swap hP1
  have hD2 := va_D.swap hD1
  have ew : am_ws (am_ext K (k, 0, 0) H.size) M = am_ws K M ++ [(H.size, .inl (am_cA K t, x0))] := by rw [am_ws_ext hfree, he]
  rw [← ew] at hP2 hD2
  exact kk H.size H' hP2 hD2 ⟨by rw [h2]; exact Nat.le_succ_of_le hS.1, fun q h6 h7 => (h3 q (Nat.lt_of_lt_of_le h6 hS.1)).trans (hS.2.1 q h6 h7), hS.2.2⟩
/-- the object that is being made gets its own -/
theorem cn_put {own C : String} {T : u_T} {N ci idx j h0 : Nat} {fs : List Value} {ex2 : va_W} {ty : FieldType} {v : Value} (hx : p.tables.exec = Jvm.exec) (hb : c.code = cc) (hts : ∀ w ∈ am_T, w.before args s = true) (hown : s.vm.findClass own = some m.cls) (hin2 : meth.name = "<init>") (hKs : va_K (am_D K) vwCl (am_tys K) s)
    (hin : ∀ w ∈ u_ws C T N, w ∈ am_T) (ty0 : Nat → FieldType) (hty : ∀ k, k < N → parseFieldDescriptor (T k).2.2.1 = some (ty0 k)) (hnm : ∀ a, a < N → ∀ b, b < N → a ≠ b → (T a).2.1 ≠ (T b).2.1) (hc : vwCl[ci]? = some (C, T, N)) (hj : j < N) (hlink : Cond.fieldLink own idx (T j).1 (T j).2.1 (T j).2.2.1 ∈ am_T) (hfin : (T j).2.2.2 = true) (hdecl : (T j).1 = own) (hd2 : parseFieldDescriptor (T j).2.2.1 = some ty) (hn : narrow ty v = v) (hfit : fits ty v = true) (hl : j < fs.length) (hd : decode cc pc = .ok (.putfield idx, 3))
    (hP : va_P (am_D K) vwCl (am_ws K M ++ ((h0, .inr (ci, fs)) :: ex2)) H) (hD : va_D A (am_ws K M ++ ((h0, .inr (ci, fs)) :: ex2))) (hS : va_S A s.heap H locs)
    (kk : ∀ (H1 : Heap) (locs1 : List Loc), va_P (am_D K) vwCl (am_ws K M ++ ((h0, .inr (ci, fs.set j v)) :: ex2)) H1 → va_D A (am_ws K M ++ ((h0, .inr (ci, fs.set j v)) :: ex2)) → va_S A s.heap H1 locs1 → W p l e R s m args below meth c H1 locs1 cells slots Q (F0 m (pc + 3) la rest)) : W p l e R s m args below meth c H locs cells slots Q (F0 m pc la (v :: .ref h0 :: rest)) := by
  have he : (am_ws K M ++ ((h0, .inr (ci, fs)) :: ex2))[(am_ws K M).length]? = some (h0, .inr (ci, fs)) := by rw [List.getElem?_append_right (Nat.le_refl _), Nat.sub_self]; rfl
  refine va_putF (D := am_D K) (cl := vwCl) (tys := am_tys K) (ref := (T j).1) (own := own) (v := v) (ty := ty) (Ts := am_T) hx hb hts hin ty0 hty hnm hown hKs hP hD hS _ he hc j hj (hts _ hlink) (fun _ h => h) hfin hin2 hdecl hd2 hn hfit hl hd (fun H1 locs1 hP1 hD1 hS1 => ?_)
  have es : (am_ws K M ++ ((h0, .inr (ci, fs)) :: ex2)).set (am_ws K M).length (h0, .inr (ci, fs.set j v)) = am_ws K M ++ ((h0, .inr (ci, fs.set j v)) :: ex2) := by
    rw [List.set_append_right _ _ (Nat.le_refl _), Nat.sub_self]; rfl
  rw [es] at hP1 hD1
  exact kk H1 locs1 hP1 hD1 hS1
theorem cn_puti {own : String} {T : u_T} {C : String} {N ci idx j h0 : Nat} {fs : List Value} {ex2 : va_W} {ty : FieldType} {v : Value} (hx : p.tables.exec = Jvm.exec) (hb : c.code = cc) (hts : ∀ w ∈ am_T, w.before args s = true) (hown : s.vm.findClass own = some m.cls) (hKs : va_K (am_D K) vwCl (am_tys K) s)
    (hin : ∀ w ∈ u_ws C T N, w ∈ am_T) (ty0 : Nat → FieldType) (hty : ∀ k, k < N → parseFieldDescriptor (T k).2.2.1 = some (ty0 k)) (hnm : ∀ a, a < N → ∀ b, b < N → a ≠ b → (T a).2.1 ≠ (T b).2.1) (hc : vwCl[ci]? = some (C, T, N)) (hj : j < N) (hlink : Cond.fieldLink own idx (T j).1 (T j).2.1 (T j).2.2.1 ∈ am_T) (hfin : (T j).2.2.2 = false) (hd2 : parseFieldDescriptor (T j).2.2.1 = some ty) (hn : narrow ty v = v) (hfit : fits ty v = true) (hl : j < fs.length) (hd : decode cc pc = .ok (.putfield idx, 3))
    (hP : va_P (am_D K) vwCl (am_ws K M ++ ((h0, .inr (ci, fs)) :: ex2)) H) (hD : va_D A (am_ws K M ++ ((h0, .inr (ci, fs)) :: ex2))) (hS : va_S A s.heap H locs)
    (kk : ∀ (H1 : Heap) (locs1 : List Loc), va_P (am_D K) vwCl (am_ws K M ++ ((h0, .inr (ci, fs.set j v)) :: ex2)) H1 → va_D A (am_ws K M ++ ((h0, .inr (ci, fs.set j v)) :: ex2)) → va_S A s.heap H1 locs1 → W p l e R s m args below meth c H1 locs1 cells slots Q (F0 m (pc + 3) la rest)) : W p l e R s m args below meth c H locs cells slots Q (F0 m pc la (v :: .ref h0 :: rest)) := by
  have he : (am_ws K M ++ ((h0, .inr (ci, fs)) :: ex2))[(am_ws K M).length]? = some (h0, .inr (ci, fs)) := by rw [List.getElem?_append_right (Nat.le_refl _), Nat.sub_self]; rfl
  refine va_put (D := am_D K) (cl := vwCl) (tys := am_tys K) (ref := (T j).1) (own := own) (v := v) (ty := ty) (Ts := am_T) hx hb hts hin ty0 hty hnm hown hKs hP hD hS _ he hc j hj (hts _ hlink) (fun _ h => h) hfin hd2 hn hfit hl hd (fun H1 locs1 hP1 hD1 hS1 => ?_)
  have es : (am_ws K M ++ ((h0, .inr (ci, fs)) :: ex2)).set (am_ws K M).length (h0, .inr (ci, fs.set j v)) = am_ws K M ++ ((h0, .inr (ci, fs.set j v)) :: ex2) := by
    rw [List.set_append_right _ _ (Nat.le_refl _), Nat.sub_self]; rfl
  rw [es] at hP1 hD1
  exact kk H1 locs1 hP1 hD1 hS1
/-- a new grid of numbers: its rows, then itself -/
theorem cn_new2 {own : String} {idx t tr n n2 k kr : Nat} {ty : FieldType} {nn n3 : Int32} {x0 : vp_A} (hx : p.tables.exec = Jvm.exec) (hb : c.code = cc) (hd : decode cc pc = .ok (.multianewarray idx 2, 4)) (hown : s.vm.findClass own = some m.cls) (hclink : (Cond.classLink own idx ("[" ++ (FieldType.array ty).toString)).before args s = true) (hover : va_AOA ty s) (harr : (Cond.arrayClass ty).before args s = true) (hKs : va_K (am_D K) vwCl (am_tys K) s)
    (ht : (am_tys K)[t]? = some (am_cA K t, .array ty)) (htr : (am_tys K)[tr]? = some (am_cA K tr, ty)) (hprim : va_RA s (am_cA K tr) ty → s.vm.findClass (FieldType.array ty).toString = some (am_cA K tr))
    (hsh : am_sh k = .inr (.inr (t, n, fun o i => (kr, o, i)))) (her : ∀ (f : Nat → Nat) (i : Nat), i < n → am_e (am_extR K kr n f) M (kr, 0, i) = .inl (am_cA K tr, x0)) (hz : ∀ cA, Jvm.Free.Multi.innerC cA n2 (defaultValue ty) = vp_cell cA x0)
    (hfree : ∀ r ∈ am_dom K, r.1 ≠ kr ∧ am_apartR r kr = true) (hfree2 : ∀ (f : Nat → Nat), ∀ r ∈ am_dom (am_extR K kr n f), r ≠ (k, 0, 0) ∧ am_apart r (k, 0, 0) = true) (hkk : k ≠ kr)
    (hn : ¬ nn < 0) (hn3 : ¬ n3 < 0) (hN : nn.toNatClampNeg = n) (hN2 : n3.toNatClampNeg = n2) (hb1 : n * 4 ≤ 536870912) (hb2 : n2 * componentBytes ty ≤ 536870912) (hb3 : n2 ≤ 536870912) (hdf : fits ty (defaultValue ty) = true) (hdd : (defaultValue ty).isDefault = true) (hcells : cells + (1 + n) ≤ R.cells) (hslots : slots + (n + n * n2) ≤ R.slots)
    (hP : va_P (am_D K) vwCl (am_ws K M ++ ex) H) (hD : va_D A (am_ws K M ++ ex)) (hS : va_S A s.heap H locs) (hA : ∀ q, s.heap.size ≤ q → A q)
    (kk : ∀ (q : Nat) (f : Nat → Nat) (H1 : Heap), va_P (am_D K) vwCl (am_ws (am_ext (am_extR K kr n f) (k, 0, 0) q) M ++ ex) H1 → va_D A (am_ws (am_ext (am_extR K kr n f) (k, 0, 0) q) M ++ ex) → va_S A s.heap H1 locs → W p l e R s m args below meth c H1 locs (cells + 1 + n) (slots + n + n * n2) Q (F0 m (pc + 4) la (.ref q :: rest))) : W p l e R s m args below meth c H locs cells slots Q (F0 m pc la (.int n3 :: .int nn :: rest)) := by
  refine va_mna (X := am_ws K M ++ ex) (L := []) (f := fun _ => .inr (0, [])) (z := x0) (D := am_D K) (cl := vwCl) (tys := am_tys K) (A := A) (H0 := s.heap) hx hb hown hclink hover harr (hprim (hKs.2 tr _ htr).2) hKs (by simpa [va_pl] using hP) (by simpa [va_pl] using hD) hS hA hn hn3 hN hN2 hb1 hb2 hb3 hdf hdd hcells hslots hz hd (fun q r cA H1 hinj _ hK2 hP1 hD1 hS1 => ?_)
  have hcA : cA = am_cA K t := by
    have e1 := (hKs.2 t _ ht).2
    have e2 := (hK2.2 (am_tys K).length (cA, .array ty) (by rw [List.getElem?_append_right (Nat.le_refl _), Nat.sub_self]; rfl)).2
    exact Option.some.inj (e2.symm.trans e1)
  subst hcA
  have hrows : va_pl ([] ++ (List.range n).map r) (vr_up (fun _ => .inr (0, [])) ((List.range n).map r) (.inl (am_cA K tr, x0))) = (List.range n).map (fun i => (r i, am_e (am_extR K kr n r) M (kr, 0, i))) := by
    unfold va_pl
    rw [List.nil_append, List.map_map]
    refine List.map_congr_left fun i hi => ?_
    show (r i, vr_up _ _ _ (r i)) = _
    rw [vr_up_in (List.mem_map.mpr ⟨i, hi, rfl⟩), her r i (List.mem_range.mp hi)]
  rw [hrows] at hP1 hD1
  have hP2 : va_P (am_D K) vwCl (((am_ws K M ++ ex) ++ [(q, .inl (am_cA K t, n, .inr (.inr (.inr (.inr (fun i => if i < n then some (r i) else none))))))]) ++ (List.range n).map (fun i => (r i, am_e (am_extR K kr n r) M (kr, 0, i)))) H1 := hP1
  have hP3 := va_P_mem.mp hP2
  have ew : am_ws (am_ext (am_extR K kr n r) (k, 0, 0) q) M = (am_ws K M ++ (List.range n).map (fun i => (r i, am_e (am_extR K kr n r) M (kr, 0, i)))) ++ [(q, am_e (am_ext (am_extR K kr n r) (k, 0, 0) q) M (k, 0, 0))] := by
    rw [am_ws_ext (hfree2 r), am_ws_extR hfree]
  have hcell : vp_cell (am_cA K t) (n, .inr (.inr (.inr (.inr (fun i => if i < n then some (r i) else none))))) = vp_cell (am_cA K t) (n, .inr (.inr (.inr (.inr (fun j => some (am_ad (am_ext (am_extR K kr n r) (k, 0, 0) q) (kr, 0, j))))))) := by
    rw [vp_cell_q, vp_cell_q]
    unfold arrV
    congr 2
    funext j
    have e3 : am_ad (am_ext (am_extR K kr n r) (k, 0, 0) q) (kr, 0, j.val) = r j.val := by
      show (if (kr, 0, j.val) = (k, 0, 0) then q else if kr = kr ∧ 0 = 0 ∧ j.val < n then r j.val else am_ad K (kr, 0, j.val)) = r j.val
      rw [if_neg (fun z => hkk (Prod.mk.inj z).1.symm), if_pos ⟨rfl, rfl, j.isLt⟩]
    show va_rf (if j.val < n then some (r j.val) else none) = va_rf (some (am_ad (am_ext (am_extR K kr n r) (k, 0, 0) q) (kr, 0, j.val)))
    rw [e3, if_pos j.isLt]
  have hP4 : va_P (am_D K) vwCl (am_ws (am_ext (am_extR K kr n r) (k, 0, 0) q) M ++ ex) H1 := va_P_mem.mpr fun y hy => by
    rw [ew] at hy
    rcases List.mem_append.mp hy with h | h
    · rcases List.mem_append.mp h with h | h
      · rcases List.mem_append.mp h with h | h
        · exact hP3 y (List.mem_append_left _ (List.mem_append_left _ (List.mem_append_left _ h)))
        · exact hP3 y (List.mem_append_right _ h)
      · have h5 := hP3 _ (List.mem_append_left _ (List.mem_append_right _ (List.mem_singleton.mpr rfl)))
        rw [List.mem_singleton.mp h, am_e_ref hsh]
        show H1[q]? = some (vp_cell _ _)
        have h6 : H1[q]? = some (vp_cell (am_cA K t) (n, .inr (.inr (.inr (.inr (fun i => if i < n then some (r i) else none)))))) := h5
        rw [h6, hcell]
        rfl
    · exact hP3 y (List.mem_append_left _ (List.mem_append_left _ (List.mem_append_right _ h)))
  have hD3 : va_D A (am_ws (am_ext (am_extR K kr n r) (k, 0, 0) q) M ++ ex) := by
    rw [ew]
    refine va_D_perm hD1 ?_ 
    simp only [List.map_append, List.map_cons, List.map_nil]
    exact va_perm4 _ _ _ _
  exact kk q r H1 hP4 hD3 hS1
end CNR
