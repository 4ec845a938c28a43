/-! the statements, by the reference -/
def sRd : kS := [(5, some 0, some 10), (5, some 0, some 14), (5, some 0, some 16), (5, some 0, some 21), (5, some 0, some 22), (5, some 0, some 23), (5, some 0, some 24), (5, some 0, some 25), (611, some 0, none), (612, some 0, none), (613, some 0, none), (617, some 0, none), (626, some 0, none), (715, some 0, none)]
theorem r_numF {M : am_M} {z f k lo b : Nat} {c : Nat → Nat} {x2 x3 : Int32} (hK : TKr M z c f) (hx2 : x2.toInt = (lo : Int)) (hx3 : ∀ v : Nat, v ≤ 100000 → ((v : Int) ≤ x3.toInt ↔ v < b)) (hn : ¬ nb z c lo b f) : f_X5_number M 0 (Int32.ofNat k) x2 x3 = some (0, am_si M 5 0 0 25 (Int32.ofNat f)) := by
  have hk4 := kd_le z c f
  have hw : wp ((f_X5_wrong M 0).bind (fun r2 => if (r2.1 = 0 ∨ r2.1 = 1) then some (r2.1, r2.2) else none)) (fun y => y = (0, am_si M 5 0 0 25 (Int32.ofNat f))) := by
    unfold f_X5_wrong
    rw [hK.1]
    exact wp_some rfl
  unfold f_X5_number
  rw [hK.2.2.1]
  refine wp_is (wp_ieq (y := 2) (by omega) (by omega) (fun ek => ?_) (fun ek => hw))
  have hv := vl_b ek
  have h24 : M.1 5 0 0 24 = Int32.ofNat (vl z c f) := hK.2.2.2 ek
  have e3 := hx3 _ hv
  rw [h24]
  refine wp_be (f_inI _ _ _ _) ?_
  rw [i_ti (by omega), hx2]
  refine wp_bz (fun e => hw) (fun e => ?_)
  rw [decide_eq_true_eq] at e
  exact absurd ⟨ek, by have := e.1; omega, e3.1 e.2⟩ hn
theorem hx3_k {x : Int32} {k : Nat} (e : x.toInt = (k : Int)) : ∀ v : Nat, v ≤ 100000 → ((v : Int) ≤ x.toInt ↔ v < k + 1) := fun v _ => by rw [e]; omega
theorem hx3_m {k : Nat} (hk : k ≤ 1000) : ∀ v : Nat, v ≤ 100000 → ((v : Int) ≤ (Int32.ofNat k - 1).toInt ↔ v < k) := fun v _ => by rw [i_nm1 hk]; omega
theorem i_subT {a b : Nat} (ha : a ≤ 24) (hb : b ≤ 24) : (Int32.ofNat a - Int32.ofNat b).toInt = (a : Int) - b := by
  by_cases h : b ≤ a
  · rw [i_sub h, i_ti (by omega)]
    omega
  · have e : ∀ k : Nat, k < 25 → (-(Int32.ofNat k)).toInt = -(k : Int) := by decide
    rw [← Int32.neg_sub, i_sub (by omega), e _ (by omega)]
    omega
theorem TKr.mv {M N : am_M} {z f : Nat} {c : Nat → Nat} {S : kS} (h : TKr M z c f) (hk : keeps S M N) (h1 : kpS S 5 0 21 = false) (h2 : kpS S 5 0 22 = false) (h3 : kpS S 5 0 23 = false) (h4 : kpS S 5 0 24 = false) : TKr N z c f := ⟨(hk.i _ _ _ _ h3).trans h.1, (hk.i _ _ _ _ h1).trans h.2.1, (hk.i _ _ _ _ h2).trans h.2.2.1, fun e => (hk.i _ _ _ _ h4).trans (h.2.2.2 e)⟩
theorem r_stH {M : am_M} {z f : Nat} {c : Nat → Nat} {D : dd} (w : WF D) (hR : RF M 0 D) (hT : TPr M z c) (hK : TKr M z c f) (hf : f ≤ z) (h4 : dh D < 4) : wp (f_X5_heapTold M 0) (fun y => PR z c y (stH z c D (te z c f))) := by
  have hl := te_le (c := c) hf
  have h1 := two_le (c := c) hl.2.1
  have w5 := w.2.2.2.2.1
  unfold f_X5_heapTold stH
  refine wp_call (wp_kp (r_tells (lo := 0) (b := 10) hT hK.2.1 hl.2.1 rfl (hx3_k (x := 9) (k := 9) rfl)) fr_f_X5_tells) (fun y hy => ?_)
  obtain ⟨hy, k1⟩ := hy
  have hT1 := hT.mv k1 rfl (fun _ => rfl)
  have hR1 := hR.ag k1 rfl
  rcases hy with ⟨n1, y1, y2, t2⟩ | ⟨n1, y1, y2⟩
  · have hf2 := (fr_le (c := c) h1.2.1).2
    rw [if_pos n1, y1]
    generalize fr z c (te z c (fr z c (te z c f))) = f2 at *
    generalize fr z c (te z c f) = f1 at *
    obtain ⟨a1, a2, a3⟩ := n1
    refine wp_neg (by decide) (wp_be (r_all w.H hR1.H) (wp_let ?_))
    rw [show (0 : Int32).toNatClampNeg = 0 from rfl, show (1 : Int32).toNatClampNeg = 1 from rfl, y2, show (24 : Int32) = Int32.ofNat 24 from rfl, i_sub w5]
    refine wp_call (Q := fun q => q.toInt = (((if vl z c f1 = 0 then 1 else 0) : Nat) : Int)) (wp_ieq (y := 0) (by omega) (by omega) (fun e => wp_some (by rw [if_pos e]; rfl)) (fun e => wp_some (by rw [if_neg e]; rfl))) (fun q6 h6 => ?_)
    refine wp_call (Q := fun q => ∀ v : Nat, v ≤ 100000 → ((v : Int) ≤ q.toInt ↔ v < min 10 (25 - dn D - vl z c f1))) (wp_ite (fun e => wp_some (fun v _ => ?_)) (fun e => wp_some (fun v _ => ?_))) (fun q10 h10 => ?_)
    · rw [Int32.le_iff_toInt_le, i_subT (by omega) (by omega), show (9 : Int32).toInt = 9 from rfl] at e
      rw [show (9 : Int32).toInt = 9 from rfl]
      omega
    · rw [Int32.le_iff_toInt_le, i_subT (by omega) (by omega), show (9 : Int32).toInt = 9 from rfl] at e
      rw [i_subT (by omega) (by omega)]
      omega
    · refine wp_call (wp_kp (r_num (k := 1) hT1 t2 hf2 (by omega) h6 h10) fr_f_X5_number) (fun u hu => ?_)
      obtain ⟨hu, k2⟩ := hu
      have hR2 := hR1.ag k2 rfl
      rcases hu with ⟨n2, u1, u2, u3, u4⟩ | ⟨n2, u1, u2⟩
      · rw [if_pos n2, u1, u2, u3 0 (by omega), y2]
        refine wp_neg (by decide) (wp_call (wp_km (r_addHeap hR2 h4) fr_f_X5_addHeap) (fun N hN => wp_some ⟨rfl, hN.1, u4.mv hN.2 rfl rfl rfl rfl⟩))
      · rw [if_neg n2, u1]
        exact wp_pos rfl (wp_some ⟨rfl, u2⟩)
  · rw [if_neg n1, y1]
    exact wp_pos rfl (wp_some ⟨rfl, y2⟩)
def rFt (M : am_M) : Option (Int32 × am_M) := (f_X5_tells M 0 (0 : Int32) (3 : Int32)).bind (fun r13 => (if r13.1 = 0 then some ((0 : Int32), r13.2) else (f_X5_number r13.2 0 (1 : Int32) (0 : Int32) (24 : Int32)).bind (fun r15 => (if r15.1 = 0 then some ((0 : Int32), r15.2) else (f_X5_number r15.2 0 (2 : Int32) (0 : Int32) (24 : Int32)).bind (fun r17 => (if r17.1 = 0 then some ((0 : Int32), r17.2) else (f_X5_fact r17.2 0 (r17.2.1 626 0 0 (0 : Int32).toNatClampNeg) (r17.2.1 626 0 0 (1 : Int32).toNatClampNeg) (r17.2.1 626 0 0 (2 : Int32).toNatClampNeg)).bind (fun r19 => some ((1 : Int32), r19.2))))))))
theorem r_stF {M : am_M} {z f : Nat} {c : Nat → Nat} {D : dd} (hR : RF M 0 D) (hT : TPr M z c) (hK : TKr M z c f) (hf : f ≤ z) (h4 : df D < 4) : wp (rFt M) (fun y => PR z c y (stF z c D (te z c f)) ∧ keeps sRd M y.2) := by
  have hl := te_le (c := c) hf
  have h1 := two_le (c := c) hl.2.1
  have h2 := two_le (c := c) h1.2.1
  unfold rFt stF
  refine wp_call (wp_kp (r_tells (lo := 0) (b := 4) hT hK.2.1 hl.2.1 rfl (hx3_k (x := 3) (k := 3) rfl)) fr_f_X5_tells) (fun y hy => ?_)
  obtain ⟨hy, k1⟩ := hy
  have hT1 := hT.mv k1 rfl (fun _ => rfl)
  have hR1 := hR.ag k1 rfl
  have kk1 : keeps sRd M y.2 := k1.mono rfl
  rcases hy with ⟨n1, y1, y2, t2⟩ | ⟨n1, y1, y2⟩
  · have hf2 := (fr_le (c := c) h1.2.1).2
    rw [if_pos n1, y1]
    refine wp_neg (by decide) (wp_call (wp_kp (r_num (k := 1) (lo := 0) (b := 25) hT1 t2 hf2 (by omega) rfl (hx3_k (x := 24) (k := 24) rfl)) fr_f_X5_number) (fun u hu => ?_))
    obtain ⟨hu, k2⟩ := hu
    have hT2 := hT1.mv k2 rfl (fun _ => rfl)
    have hR2 := hR1.ag k2 rfl
    have kk2 : keeps sRd M u.2 := kk1.trans (k2.mono rfl)
    rcases hu with ⟨n2, u1, u2, u3, t3⟩ | ⟨n2, u1, u2⟩
    · have hf3 := (fr_le (c := c) h2.2.1).2
      rw [if_pos n2, u1]
      refine wp_neg (by decide) (wp_call (wp_kp (r_num (k := 2) (lo := 0) (b := 25) hT2 t3 hf3 (by omega) rfl (hx3_k (x := 24) (k := 24) rfl)) fr_f_X5_number) (fun v hv => ?_))
      obtain ⟨hv, k3⟩ := hv
      have hR3 := hR2.ag k3 rfl
      have kk3 : keeps sRd M v.2 := kk2.trans (k3.mono rfl)
      rcases hv with ⟨n3, v1, v2, v3, t4⟩ | ⟨n3, v1, v2⟩
      · have a1 := n1.2.2
        have a2 := n2.2.2
        have a3 := n3.2.2
        rw [if_pos n3, v1, show (0 : Int32).toNatClampNeg = 0 from rfl, show (1 : Int32).toNatClampNeg = 1 from rfl, show (2 : Int32).toNatClampNeg = 2 from rfl, v2, v3 0 (by omega), v3 1 (by omega), u2, u3 0 (by omega), y2]
        refine wp_neg (by decide) (wp_call (r_fact hR3 h4 (by omega) (by omega) (by omega)) (fun q hq => wp_some ⟨⟨rfl, hq.2.1, t4.mv hq.2.2 rfl rfl rfl rfl⟩, kk3.trans (hq.2.2.mono rfl)⟩))
      · rw [if_neg n3, v1]
        exact wp_pos rfl (wp_some ⟨⟨rfl, v2⟩, kk3⟩)
    · rw [if_neg n2, u1]
      exact wp_pos rfl (wp_some ⟨⟨rfl, u2⟩, kk2⟩)
  · rw [if_neg n1, y1]
    exact wp_pos rfl (wp_some ⟨⟨rfl, y2⟩, kk1⟩)
theorem r_wr (M : am_M) {f : Nat} (h : M.1 5 0 0 23 = Int32.ofNat f) : (f_X5_wrong M 0).bind (fun r8 => if (r8.1 = 0 ∨ r8.1 = 1) then some (r8.1, r8.2) else none) = some (0, am_si M 5 0 0 25 (Int32.ofNat f)) := by
  unfold f_X5_wrong
  rw [h]
  rfl
theorem r_stS {M : am_M} {z f : Nat} {c : Nat → Nat} {D : dd} (w : WF D) (hR : RF M 0 D) (hT : TPr M z c) (hK : TKr M z c f) (hf : f ≤ z) : wp (f_X5_swapTold M 0) (fun y => PR z c y (stS z c D (te z c f))) := by
  have hl := te_le (c := c) hf
  have h1 := two_le (c := c) hl.2.1
  have w1 := w.1
  unfold f_X5_swapTold stS
  rw [hR.1]
  refine wp_call (wp_kp (r_tells (lo := 0) (b := dh D) hT hK.2.1 hl.2.1 rfl (hx3_m (k := dh D) (by omega))) fr_f_X5_tells) (fun y hy => ?_)
  obtain ⟨hy, k1⟩ := hy
  have hT1 := hT.mv k1 rfl (fun _ => rfl)
  have hR1 := hR.ag k1 rfl
  rcases hy with ⟨n1, y1, y2, t2⟩ | ⟨n1, y1, y2⟩
  · have hf2 := (fr_le (c := c) h1.2.1).2
    rw [if_pos n1, y1]
    generalize fr z c (te z c (fr z c (te z c f))) = f2 at *
    generalize fr z c (te z c f) = f1 at *
    have hk4 := kd_le z c f2
    have a3 := n1.2.2
    refine wp_neg (by decide) ?_
    rw [show (0 : Int32).toNatClampNeg = 0 from rfl, show (1 : Int32).toNatClampNeg = 1 from rfl, y2, t2.2.2.1, hR1.1]
    have bad : ∀ {Q : Int32 × am_M → Prop}, Q (0, am_si (am_si y.2 5 0 0 25 (Int32.ofNat f2)) 5 0 0 25 (Int32.ofNat f2)) → ¬ nb z c 0 (dh D) f2 → wp ((f_X5_number y.2 0 (1 : Int32) (0 : Int32) (Int32.ofNat (dh D) - (1 : Int32))).bind (fun r4 => (if r4.1 = 0 then (f_X5_wrong r4.2 0).bind (fun r8 => if (r8.1 = 0 ∨ r8.1 = 1) then some (r8.1, r8.2) else none) else (f_X5_change r4.2 0 (r4.2.1 626 0 0 0) (r4.2.1 626 0 0 1)).bind (fun r6 => some ((1 : Int32), r6))))) Q := fun {Q} hQ hn => by
      refine wp_be (r_numF (k := 1) (lo := 0) (b := dh D) t2 rfl (hx3_m (k := dh D) (by omega)) hn) (wp_pos rfl ?_)
      dsimp only
      rw [r_wr (am_si y.2 5 0 0 25 (Int32.ofNat f2)) ((si_j (by decide)).trans t2.1)]
      exact wp_some hQ
    refine wp_ieq (y := 2) (by omega) (by omega) (fun ek => ?_) (fun ek => bad ?_ (fun h => ek h.1))
    · have h24 : y.2.1 5 0 0 24 = Int32.ofNat (vl z c f2) := t2.2.2.2 ek
      have hv := vl_b ek
      rw [h24]
      refine wp_ieq (by omega) (by omega) (fun e0 => ?_) (fun e0 => ?_)
      · rw [r_wr y.2 t2.1, if_neg (show ¬ (nb z c 0 (dh D) f2 ∧ vl z c f2 ≠ vl z c f1) from fun h => h.2 e0)]
        exact wp_some ⟨rfl, by rw [am_si_self]⟩
      · by_cases n2 : nb z c 0 (dh D) f2
        · rw [if_pos ⟨n2, e0⟩]
          refine wp_call (wp_kp (r_num (k := 1) (lo := 0) (b := dh D) hT1 t2 hf2 (by omega) rfl (hx3_m (k := dh D) (by omega))) fr_f_X5_number) (fun u hu => ?_)
          obtain ⟨hu, k2⟩ := hu
          have hR2 := hR1.ag k2 rfl
          rcases hu with ⟨_, u1, u2, u3, u4⟩ | ⟨n3, _⟩
          · rw [u1, u2, u3 0 (by omega), y2]
            exact wp_neg (by decide) (wp_call (wp_km (r_change w1 hR2 a3 n2.2.2) fr_f_X5_change) (fun N hN => wp_some ⟨rfl, hN.1, u4.mv hN.2 rfl rfl rfl rfl⟩))
          · exact absurd n2 n3
        · refine bad ?_ n2
          rw [if_neg (show ¬ (nb z c 0 (dh D) f2 ∧ vl z c f2 ≠ vl z c f1) from fun h => n2 h.1)]
          exact ⟨rfl, by rw [am_si_self]⟩
    · rw [if_neg (show ¬ (nb z c 0 (dh D) f2 ∧ vl z c f2 ≠ vl z c f1) from fun h => ek h.1.1)]
      exact ⟨rfl, by rw [am_si_self]⟩
  · rw [if_neg n1, y1]
    exact wp_pos rfl (wp_some ⟨rfl, y2⟩)
theorem r_read22 {z e f : Nat} {c : Nat → Nat} (hez : e ≤ z) : ∀ (k n i : Nat) (M : am_M) (D : dd), i + k = e → k + 1 ≤ n → WF D → RF M 0 D → TPr M z c → M.1 5 0 0 23 = Int32.ofNat f → M.1 5 0 0 21 = Int32.ofNat e → wp (l_X5_readTold_22 0 n (Int32.ofNat i) M) (fun y => match rdl c k i D with | none => y.1 = 0 ∧ y.2.1 5 0 0 25 = Int32.ofNat f | some E => y.1 = 1 ∧ RF y.2 0 E ∧ TKr y.2 z c (fr z c e)) := by
  intro k
  induction k with
  | zero =>
    intro n i M D hi hn w hR hT h1 h3
    have hz := hT.1
    obtain ⟨n', rfl⟩ : ∃ n', n = n' + 1 := ⟨n - 1, by omega⟩
    rw [l_X5_readTold_22, h3]
    refine wp_le (by omega) (by omega) (fun _ => wp_call (wp_km (r_look hT h3 hez) fr_f_X5_look) (fun N hN => wp_some ⟨rfl, hR.ag hN.2 rfl, hN.1⟩)) (fun h => absurd h (by omega))
  | succ k ih =>
    intro n i M D hi hn w hR hT h1 h3
    have hz := hT.1
    have w5 := w.2.2.2.2.1
    obtain ⟨n', rfl⟩ : ∃ n', n = n' + 1 := ⟨n - 1, by omega⟩
    have h5 := (hT.2.2 i (by omega)).2
    have wr : ∀ {Q : Int32 × am_M → Prop}, Q (0, am_si M 5 0 0 25 (Int32.ofNat f)) → wp ((f_X5_wrong M 0).bind (fun r22 => if (r22.1 = 0 ∨ r22.1 = 1) then some (r22.1, r22.2) else none)) Q := fun {Q} hQ => by
      rw [r_wr M h1]
      exact wp_some hQ
    rw [l_X5_readTold_22, h3, i_cl (x := i) (by omega), (hT.2.2 i (by omega)).1, rdl, hR.2.2.1]
    have go : ∀ (x : Nat) (v : Int32), x ≤ 1 → v = Int32.ofNat x → wp ((f_X5_isThere M 0 v).bind (fun r12 => (if r12 = 0 then (f_X5_wrong M 0).bind (fun r22 => if (r22.1 = 0 ∨ r22.1 = 1) then some (r22.1, r22.2) else none) else am_let (am_si M 5 0 0 16 (Int32.ofNat (dr D) + (1 : Int32))) (fun M13 => ((if v = 0 then some (0 : Int32) else some (1 : Int32)) : Option (Int32)).bind (fun z14 => if am_inb (Int32.ofNat (dr D)) 24 = true then am_let (am_si M13 617 0 0 (Int32.ofNat (dr D)).toNatClampNeg z14) (fun M19 => am_let (Int32.ofNat i + (1 : Int32)) (fun v20 => l_X5_readTold_22 0 n' v20 M19)) else none))))) (fun y => match (if cn D x = true then rdl c k (i + 1) (dRead D x) else none) with | none => y.1 = 0 ∧ y.2.1 5 0 0 25 = Int32.ofNat f | some E => y.1 = 1 ∧ RF y.2 0 E ∧ TKr y.2 z c (fr z c e)) := by
      intro x v hx hv
      subst hv
      refine wp_be (r_isThere w hR hx) (wp_bz (fun q => wr ?_) (fun q => wp_let ?_))
      · rw [q, if_neg (show ¬ false = true from by decide)]
        exact ⟨rfl, by rw [am_si_self]⟩
      · have hr : dr D < dn D := by
          have := q
          unfold cn at this
          rw [Bool.and_eq_true, decide_eq_true_eq] at this
          exact this.1
        rw [if_pos q, i_s, i_s]
        refine wp_call (Q := fun y => y = Int32.ofNat x) (wp_ieq (y := 0) (by omega) (by omega) (fun e => wp_some (by rw [e]; rfl)) (fun e => wp_some (by rw [show x = 1 from by omega]; rfl))) (fun y hy => ?_)
        subst hy
        rw [i_cl (x := dr D) (by omega)]
        refine wp_inb (by omega) (by omega) (wp_let (wp_let ?_))
        have kk : keeps [(5, some 0, some 16), (617, some 0, none)] M (am_si (am_si M 5 0 0 16 (Int32.ofNat (dr D + 1))) 617 0 0 (dr D) (Int32.ofNat x)) := ((keeps.rf _ M).si rfl).si rfl
        exact ih n' (i + 1) _ (dRead D x) (by omega) (by omega) (w.read hx q) (r_push hR) (hT.mv kk rfl (fun _ => rfl)) ((kk.i _ _ _ _ rfl).trans h1) ((kk.i _ _ _ _ rfl).trans h3)
    refine wp_le (by omega) (by omega) (fun h => absurd h (by omega)) (fun _ => wp_inb (by omega) (by omega) ?_)
    by_cases ea : c i = 97
    · rw [if_pos ea]
      refine wp_call (Q := fun y => y = Int32.ofNat 1) (wp_pos (by rw [ea]; rfl) (wp_some rfl)) (fun y hy => ?_)
      subst hy
      exact wp_neg (by decide) (go 1 _ (by omega) rfl)
    · rw [if_neg ea]
      refine wp_call (Q := fun y => y = Int32.ofNat 0) (wp_neg (fun h => ea ((i_eq (by omega) (by omega)).1 h)) (wp_some rfl)) (fun y hy => ?_)
      subst hy
      refine wp_pos rfl (wp_inb (by omega) (by omega) (wp_ieq (y := 98) (by omega) (by omega) (fun eb => ?_) (fun eb => ?_)))
      · rw [if_pos eb]
        exact go 0 _ (by omega) rfl
      · rw [if_neg eb]
        exact wr ⟨rfl, by rw [am_si_self]⟩
theorem r_stR {M : am_M} {z f : Nat} {c : Nat → Nat} {D : dd} (w : WF D) (hR : RF M 0 D) (hT : TPr M z c) (hK : TKr M z c f) (hf : f ≤ z) : wp (f_X5_readTold M 0) (fun y => PR z c y (stR z c D (te z c f))) := by
  have hz := hT.1
  have hl := te_le (c := c) hf
  have h1 := fr_le (c := c) hl.2.1
  have h2 := te_le (c := c) h1.2
  unfold f_X5_readTold stR
  refine wp_call (wp_km (r_look hT hK.2.1 hl.2.1) fr_f_X5_look) (fun N hN => ?_)
  obtain ⟨t1, k1⟩ := hN
  have hk4 := kd_le z c (fr z c (te z c f))
  rw [t1.2.2.1]
  refine wp_ieq (y := 1) (by omega) (by omega) (fun e => wp_let ?_) (fun e => ?_)
  · rw [if_pos e, t1.1]
    refine wp_mono (r_read22 h2.2.1 (te z c (fr z c (te z c f)) - fr z c (te z c f)) 1000 (fr z c (te z c f)) N D (by omega) (by omega) w (hR.ag k1 rfl) (hT.mv k1 rfl (fun _ => rfl)) t1.1 t1.2.1) (fun y hy => ?_)
    unfold stR1
    cases er : rdl c (te z c (fr z c (te z c f)) - fr z c (te z c f)) (fr z c (te z c f)) D with
    | none => rw [er] at hy; exact hy
    | some E => rw [er] at hy; exact hy
  · rw [r_wr N t1.1, if_neg e]
    exact wp_some ⟨rfl, by rw [am_si_self]⟩
