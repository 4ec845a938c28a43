/-! the orders of the heaps, one after another -/
def lv (h : Nat) : Nat → Nat → List Nat → List (List Nat)
  | 0, _, pre => [pre]
  | r + 1, m, pre => (List.range' 0 h).flatMap (fun j => if m.testBit j = true then [] else lv h r (m ||| 2 ^ j) (pre ++ [j]))
def pL (h : Nat) : List (List Nat) := lv h h 0 []
def gdl (h : Nat) (l : List Nat) : Prop := l.length = h ∧ (∀ i, i < h → l.getD i 0 < h) ∧ (∀ i, i < h → ∀ j, j < h → l.getD i 0 = l.getD j 0 → i = j)
theorem pL_ok : ∀ h, h < 5 → ∀ l ∈ pL h, l.length = h ∧ (∀ i, i < h → l.getD i 0 < h) ∧ (∀ i, i < h → ∀ j, j < h → l.getD i 0 = l.getD j 0 → i = j) := by decide +kernel
theorem pL_n : ∀ h, h < 5 → am_OR.getD h 0 = Int32.ofNat (pL h).length ∧ 0 < (pL h).length ∧ (pL h).length ≤ 24 := by decide +kernel
theorem pL_at {h i : Nat} (hh : h < 5) (hi : i < (pL h).length) : gdl h ((pL h).getD i []) := by
  refine pL_ok h hh _ ?_
  rw [List.getD_eq_getElem?_getD, List.getElem?_eq_getElem hi]
  exact List.getElem_mem hi
def zM : am_M := (fun _ _ _ _ => 0, fun _ _ _ _ => 0)
def tpF (H : Int32) : Nat → Int32 → Int32 → Int32 → Option (List Int32)
  | 0, _, _, _ => none
  | n + 1, a2, a3, a4 => (if H ≤ a4 then some [] else if am_inb ((H - (1 : Int32)) - a4) 5 = true then am_let (if (1 : Int32) < (am_OR.getD ((H - (1 : Int32)) - a4).toNatClampNeg 0) then (am_OR.getD ((H - (1 : Int32)) - a4).toNatClampNeg 0) else (1 : Int32)) (fun v2 => if ¬ v2 = 0 then (f_X4_freeHeap zM a2 (a3 / v2)).bind (fun r5 => if ¬ v2 = 0 then am_let (a3 - a3 / v2 * v2) (fun v7 => am_let (a2 ||| ((1 : Int32) <<< (r5 &&& 31))) (fun v8 => if am_inb a4 4 = true then am_let (a4 + (1 : Int32)) (fun v11 => (tpF H n v8 v7 v11).bind (fun l => some (r5 :: l))) else none)) else none) else none) else none)
theorem tp_tab : ∀ h, h < 5 → ∀ i, i < (pL h).length → tpF (Int32.ofNat h) 1000 0 (Int32.ofNat i) 0 = some (((pL h).getD i []).map Int32.ofNat) := by decide +kernel
theorem fh_M (M N : am_M) (a0 : Int32) : ∀ (n : Nat) (a2 a3 : Int32), l_X4_freeHeap_4 M a0 n a2 a3 = l_X4_freeHeap_4 N a0 n a2 a3
  | 0, _, _ => rfl
  | n + 1, a2, a3 => by
    rw [l_X4_freeHeap_4, l_X4_freeHeap_4]
    unfold am_let
    dsimp only
    rw [fh_M M N a0 n, fh_M M N a0 n]
theorem c_try7 {H : Int32} : ∀ (n : Nat) (a2 a3 : Int32) (j : Nat) (l : List Int32) (M : am_M), j ≤ 4 → tpF H n a2 a3 (Int32.ofNat j) = some l → M.1 1 0 0 0 = H → wp (l_X4_tryOrder_7 n a2 a3 (Int32.ofNat j) M) (fun N => (∀ i, i < l.length → N.1 506 0 0 (j + i) = l.getD i 0) ∧ ∀ i, i < j → N.1 506 0 0 i = M.1 506 0 0 i)
  | 0, _, _, _, _, _, _, h, _ => (nomatch h)
  | n + 1, a2, a3, j, l, M, hj, h, hM => by
    rw [tpF] at h
    rw [l_X4_tryOrder_7, hM]
    by_cases c1 : H ≤ Int32.ofNat j
    · rw [if_pos c1] at h ⊢
      cases h
      exact wp_some ⟨fun i hi => absurd hi (Nat.not_lt_zero i), fun i _ => rfl⟩
    rw [if_neg c1] at h ⊢
    by_cases c2 : am_inb ((H - (1 : Int32)) - Int32.ofNat j) 5 = true
    case neg => rw [if_neg c2] at h; cases h
    rw [if_pos c2] at h ⊢
    refine wp_let ?_
    unfold am_let at h
    generalize (if (1 : Int32) < (am_OR.getD ((H - (1 : Int32)) - Int32.ofNat j).toNatClampNeg 0) then (am_OR.getD ((H - (1 : Int32)) - Int32.ofNat j).toNatClampNeg 0) else (1 : Int32)) = v2 at h ⊢
    dsimp only at h
    by_cases c3 : ¬ v2 = 0
    case neg => rw [if_neg c3] at h; cases h
    rw [if_pos c3] at h ⊢
    have ef : f_X4_freeHeap M a2 (a3 / v2) = f_X4_freeHeap zM a2 (a3 / v2) := fh_M _ _ _ _ _ _
    rw [ef]
    cases er : f_X4_freeHeap zM a2 (a3 / v2) with
    | none => rw [er] at h; cases h
    | some r5 =>
      rw [er] at h
      have h : (if ¬ v2 = 0 then (if am_inb (Int32.ofNat j) 4 = true then (tpF H n (a2 ||| ((1 : Int32) <<< (r5 &&& 31))) (a3 - a3 / v2 * v2) (Int32.ofNat j + 1)).bind (fun l => some (r5 :: l)) else none) else none) = some l := h
      rw [if_pos c3] at h
      refine wp_be rfl (wp_pos c3 (wp_let (wp_let ?_)))
      by_cases c4 : am_inb (Int32.ofNat j) 4 = true
      case neg => rw [if_neg c4] at h; cases h
      rw [if_pos c4] at h ⊢
      have hj4 : j ≠ 4 := fun e => by rw [e] at c4; exact absurd c4 (by decide)
      refine wp_let (wp_let ?_)
      rw [i_s] at h ⊢
      rw [i_cl (x := j) (by omega)]
      cases et : tpF H n (a2 ||| ((1 : Int32) <<< (r5 &&& 31))) (a3 - a3 / v2 * v2) (Int32.ofNat (j + 1)) with
      | none => rw [et] at h; cases h
      | some l' =>
        rw [et] at h
        have h : some (r5 :: l') = some l := h
        cases h
        refine wp_mono (c_try7 n _ _ (j + 1) l' _ (by omega) et ((si_k (by decide)).trans hM)) (fun N hN => ⟨fun i hi => ?_, fun i hi => ?_⟩)
        · cases i with
          | zero =>
            rw [show j + 0 = j from rfl, hN.2 j (by omega), am_si_self]
            rfl
          | succ i =>
            rw [show j + (i + 1) = j + 1 + i from by omega, hN.1 i (Nat.lt_of_succ_lt_succ hi)]
            rfl
        · rw [hN.2 i (by omega), si_j (by omega)]
theorem gd_map (l : List Nat) (j : Nat) : (l.map Int32.ofNat).getD j 0 = Int32.ofNat (l.getD j 0) := by
  rw [List.getD_eq_getElem?_getD, List.getD_eq_getElem?_getD, List.getElem?_map]
  cases l[j]? with
  | none => rfl
  | some x => rfl
theorem c_try {M : am_M} {h i : Nat} (hh : h < 5) (hi : i < (pL h).length) (hM : M.1 1 0 0 0 = Int32.ofNat h) : wp (f_X4_tryOrder M (Int32.ofNat i)) (fun N => ∀ j, j < h → N.1 506 0 0 j = Int32.ofNat (((pL h).getD i []).getD j 0)) := by
  unfold f_X4_tryOrder
  refine wp_call (c_try7 1000 0 (Int32.ofNat i) 0 _ M (by omega) (tp_tab h hh i hi) hM) (fun N hN => wp_some (fun j hj => ?_))
  have hl := (pL_at hh hi).1
  have e := hN.1 j (by rw [List.length_map]; omega)
  rw [Nat.zero_add] at e
  rw [e, gd_map]
/-- the drum with its heaps in another order -/
def dOr (D : dd) (l : List Nat) : dd := ((dh D, dA D, dB D, fun i => l.getD i 0), D.2)
theorem dOr_n {D : dd} {l : List Nat} (w : WF D) (g : gdl (dh D) l) : dn (dOr D l) = dn D := by
  have e1 := sm_perm (O := dO (dOr D l)) (fun i => dA D i + dB D i) (h := dh D) g.2.1 (fun i k hi hk e => g.2.2 i hi k hk e)
  have e2 := sm_perm (O := dO D) (fun i => dA D i + dB D i) (h := dh D) w.2.2.1 w.2.2.2.1
  exact e1.trans e2.symm
theorem dOr_H {D : dd} {l : List Nat} (w : WF D) (g : gdl (dh D) l) : WH (dOr D l) := ⟨w.1, w.2.1, g.2.1, fun i k hi hk e => g.2.2 i hi k hk e, by rw [dOr_n w g]; exact w.2.2.2.2.1⟩
def spv (D : dd) (l : List Nat) : Int64 := Int64.ofNat (sf (DP (dOr D l)) (ah 1) (dn (dOr D l)) (de (dOr D l)))
def stp (x : Int32) (D : dd) (b : Option (Int64 × List Nat)) (l : List Nat) : Option (Int64 × List Nat) :=
  match b with
  | none => some (spv D l, l)
  | some (v, k) => if x = 0 then (if 0 ≤ lg_cmp (spv D l) v then some (v, k) else some (spv D l, l)) else (if lg_cmp (spv D l) v ≤ 0 then some (v, k) else some (spv D l, l))
theorem c_spentBy {M : am_M} {D : dd} {i : Nat} (w : WF D) (hD : DR M 0 D) (hi : i < (pL (dh D)).length) : wp (f_X4_spentBy M (Int32.ofNat i)) (fun y => y.1 = spv D ((pL (dh D)).getD i [])) := by
  have hh := w.1
  have g := pL_at (show dh D < 5 from by omega) hi
  have wl := dOr_H w g
  unfold f_X4_spentBy
  refine wp_call (wp_km (c_try (by omega) hi hD.1) fr_f_X4_tryOrder) (fun N hN => ?_)
  obtain ⟨hN, hk⟩ := hN
  have hDN := hD.ag hk rfl
  have hH : HO N 0 506 0 0 (dh D) (dO (dOr D ((pL (dh D)).getD i []))) (dA D) (dB D) := ⟨hDN.1, fun j hj => ⟨hN j hj, by have := g.2.1 j hj; exact Nat.lt_of_lt_of_le this hh, (hDN.2.2.2.1 _ (g.2.1 j hj)).1, (hDN.2.2.2.1 _ (g.2.1 j hj)).2.1⟩⟩
  refine wp_call (c_layHeaps (by decide) hh wl.2.2.2.2 hH) (fun N1 h1 => wp_call (wp_km (c_markAhead h1 wl.2.2.2.2) fr_f_X0_markAhead) (fun N2 h2 => wp_call (c_sumMarks (h1.mv h2.2 rfl rfl (fun _ => rfl)) h2.1 wl.2.2.2.2 ?_) (fun y hy => wp_some hy)))
  exact Nat.le_trans (EE_le (dOr D ((pL (dh D)).getD i [])) (dh D)) wl.2.2.2.2
theorem fo_s {α β : Type} (f : β → α → β) (b : β) (l : List α) (d : α) {i : Nat} (h : i < l.length) : (l.take (i + 1)).foldl f b = f ((l.take i).foldl f b) (l.getD i d) := by
  rw [List.take_succ_eq_append_getElem h, List.foldl_append, List.getD_eq_getElem?_getD, List.getElem?_eq_getElem h]
  rfl
theorem c_ord35 {D : dd} {x1 x2 : Int32} (w : WF D) : ∀ (m i b : Nat) (v : Int64) (M : am_M), i ≤ (pL (dh D)).length → (pL (dh D)).length + 1 ≤ m + i → DR M 0 D → b < (pL (dh D)).length → ((pL (dh D)).take i).foldl (stp x1 D) none = some (v, (pL (dh D)).getD b []) → wp (l_X4_order_35 x1 x2 m (Int32.ofNat b) v (Int32.ofNat i) M) (fun z => ∃ b' v', z.1 = Int32.ofNat b' ∧ b' < (pL (dh D)).length ∧ DR z.2 0 D ∧ (pL (dh D)).foldl (stp x1 D) none = some (v', (pL (dh D)).getD b' [])) := by
  intro m
  have hh := w.1
  obtain ⟨n1, n2, n3⟩ := pL_n (dh D) (by omega)
  induction m with
  | zero => intro i b v M h1 h2; omega
  | succ m ih =>
    intro i b v M hi hm hD hb hf
    rw [l_X4_order_35, hD.1, i_cl (x := dh D) (by omega), n1]
    refine wp_inb (by omega) (by omega) (wp_le (by omega) (by omega) (fun e => wp_some ⟨b, v, rfl, hb, hD, ?_⟩) (fun hlt => ?_))
    · have e : i = (pL (dh D)).length := by omega
      rw [e, List.take_length] at hf
      exact hf
    refine wp_call (wp_kp (c_spentBy w hD hlt) fr_f_X4_spentBy) (fun y hy => wp_let ?_)
    obtain ⟨hy, hk⟩ := hy
    rw [hy]
    have hs := fo_s (stp x1 D) none (pL (dh D)) [] hlt
    rw [hf] at hs
    refine wp_call (Q := fun z => ∃ b', z.1 = Int32.ofNat b' ∧ b' < (pL (dh D)).length ∧ ((pL (dh D)).take (i + 1)).foldl (stp x1 D) none = some (z.2, (pL (dh D)).getD b' [])) ?_ (fun z hz => ?_)
    · rw [hs]
      unfold stp
      dsimp only
      refine wp_ite (fun c => ?_) (fun c => ?_)
      · rw [if_pos c]
        refine wp_ite (fun c' => wp_some ⟨b, rfl, hb, by rw [if_pos c']⟩) (fun c' => wp_some ⟨i, rfl, hlt, by rw [if_neg c']⟩)
      · rw [if_neg c]
        refine wp_ite (fun c' => wp_some ⟨b, rfl, hb, by rw [if_pos c']⟩) (fun c' => wp_some ⟨i, rfl, hlt, by rw [if_neg c']⟩)
    · obtain ⟨b', z1, z2, z3⟩ := hz
      refine wp_let ?_
      rw [i_s, z1]
      exact ih (i + 1) b' z.2 y.2 hlt (by omega) (hD.ag hk rfl) z2 z3
def sQ : kS := [(0, some 0, some 0), (0, some 0, some 1), (103, some 0, none), (104, some 0, none), (105, some 0, none), (106, some 0, none), (506, some 0, none)]
theorem c_order {M : am_M} {D : dd} {x1 : Int32} {q : Nat} (w : WF D) (hD : DR M 0 D) (hq : q < dh D) : ∃ v b, b < (pL (dh D)).length ∧ (pL (dh D)).foldl (stp x1 D) none = some (v, (pL (dh D)).getD b []) ∧ wp (f_X4_order M x1 (Int32.ofNat q)) (fun y => y.1 = Int32.ofNat (((pL (dh D)).getD b []).getD q 0) ∧ keeps sQ M y.2) := by
  have hh := w.1
  obtain ⟨n1, n2, n3⟩ := pL_n (dh D) (by omega)
  obtain ⟨y, ey, hy, ky⟩ := wp_kp (c_spentBy (i := 0) w hD n2) fr_f_X4_spentBy
  have hf := fo_s (stp x1 D) none (pL (dh D)) [] n2
  obtain ⟨z, ez, ⟨b, v, z1, z2, z3, z4⟩, kz⟩ := wp_kp (c_ord35 (x1 := x1) (x2 := Int32.ofNat q) w 1000 1 0 y.1 y.2 (by omega) (by omega) (hD.ag ky rfl) n2 (by rw [hf, hy]; rfl)) (fr_l_X4_order_35 _ _ _ _ _)
  refine ⟨v, b, z2, z4, ?_⟩
  unfold f_X4_order
  rw [hD.1]
  refine wp_be (f_w M _ (i_nm1 (by omega))) (wp_neg (bz_dn ?_) (wp_be ey (wp_let (wp_be ez ?_))))
  · rw [i_ti (by omega)]
    omega
  · rw [z1]
    refine wp_call (wp_km (c_try (by omega) z2 z3.1) fr_f_X4_tryOrder) (fun N hN => ?_)
    rw [i_cl (x := q) (by omega)]
    exact wp_inb (by omega) (by omega) (wp_some ⟨hN.1 q hq, ((ky.mono rfl).trans (kz.mono rfl)).trans (hN.2.mono rfl)⟩)
