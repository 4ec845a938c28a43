/-! the reference's seeking of an order -/
def RHb (N : am_M) (D : dd) : Prop := N.1 5 1 0 10 = Int32.ofNat (dh D) ∧ ∀ i, i < dh D → N.1 611 1 0 i = Int32.ofNat (dA D i) ∧ N.1 612 1 0 i = Int32.ofNat (dB D i)
def Bs (N : am_M) (h : Nat) (b : Option (Int64 × List Nat)) : Prop :=
  match b with
  | none => N.1 5 1 0 39 = 1
  | some (v, l) => N.1 5 1 0 39 = 0 ∧ N.2 5 1 0 38 = v ∧ ∀ i, i < h → N.1 637 1 0 i = Int32.ofNat (l.getD i 0)
def sOa : kS := [(5, some 1, some 29), (5, some 1, some 38), (5, some 1, some 39), (613, some 1, none), (637, some 1, none), (728, some 1, none), (730, some 1, none), (731, some 1, none)]
def sOb : kS := [(5, some 1, some 29), (5, some 1, some 38), (5, some 1, some 39), (613, some 1, none), (636, some 1, none), (637, some 1, none), (728, some 1, none), (730, some 1, none), (731, some 1, none)]
theorem RHb.mv {M N : am_M} {D : dd} {S : kS} (h : RHb M D) (hk : keeps S M N) (h0 : kpS S 5 1 10 = false) (h1 : ∀ j, kpS S 611 1 j = false) (h2 : ∀ j, kpS S 612 1 j = false) : RHb N D := ⟨(hk.i _ _ _ _ h0).trans h.1, fun i hi => ⟨(hk.i _ _ _ _ (h1 i)).trans (h.2 i hi).1, (hk.i _ _ _ _ (h2 i)).trans (h.2 i hi).2⟩⟩
theorem Bs.mv {M N : am_M} {h : Nat} {b : Option (Int64 × List Nat)} {S : kS} (hb : Bs M h b) (hk : keeps S M N) (h0 : kpS S 5 1 39 = false) (h1 : kpS S 5 1 38 = false) (h2 : ∀ j, kpS S 637 1 j = false) : Bs N h b := by
  cases b with
  | none => exact (hk.i _ _ _ _ h0).trans hb
  | some p => exact ⟨(hk.i _ _ _ _ h0).trans hb.1, (hk.l _ _ _ _ h1).trans hb.2.1, fun i hi => (hk.i _ _ _ _ (h2 i)).trans (hb.2.2 i hi)⟩
theorem r_seek11 {rec : am_M → Nat → Int32 → Int32 → Int32 → Option am_M} {x3 : Int32} {h : Nat} {f : Nat → Nat} (hh : h ≤ 4) : ∀ (m j : Nat) (M : am_M), j ≤ h → h + 1 ≤ m + j → M.1 5 1 0 10 = Int32.ofNat h → (∀ i, i < h → M.1 636 1 0 i = Int32.ofNat (f i)) → (∀ i, i < j → M.1 613 1 0 i = Int32.ofNat (f i)) → wp (l_X5_seek_11 rec 1 x3 m (Int32.ofNat j) M) (fun N => (∀ i, i < h → N.1 613 1 0 i = Int32.ofNat (f i)) ∧ keeps [(613, some 1, none)] M N) := by
  intro m
  induction m with
  | zero => intro j M h1 h2; omega
  | succ m ih =>
    intro j M hj hm h0 h1 h2
    rw [l_X5_seek_11, h0]
    refine wp_le (by omega) (by omega) (fun e => wp_some ⟨fun i hi => h2 i (by omega), keeps.rf _ _⟩) (fun hlt => ?_)
    refine wp_inb (by omega) (by omega) (wp_inb (by omega) (by omega) (wp_let (wp_let ?_)))
    rw [i_cl (x := j) (by omega), i_s, h1 j hlt]
    refine wp_mono (ih (j + 1) _ hlt (by omega) ((si_k (by decide)).trans h0) (fun i hi => (si_k (by decide)).trans (h1 i hi)) (fun i hi => ?_)) (fun N hN => ⟨hN.1, ((keeps.rf _ M).si rfl).trans hN.2⟩)
    rw [si_e]
    by_cases e : i = j
    · rw [if_pos e, e]
    · rw [if_neg e]
      exact h2 i (by omega)
theorem r_seek98 {rec : am_M → Nat → Int32 → Int32 → Int32 → Option am_M} {h : Nat} {f : Nat → Nat} (hh : h ≤ 4) : ∀ (m j : Nat) (M : am_M), j ≤ h → h + 1 ≤ m + j → M.1 5 1 0 10 = Int32.ofNat h → (∀ i, i < h → M.1 636 1 0 i = Int32.ofNat (f i)) → (∀ i, i < j → M.1 637 1 0 i = Int32.ofNat (f i)) → wp (l_X5_seek_98 rec 1 m (Int32.ofNat j) M) (fun N => (∀ i, i < h → N.1 637 1 0 i = Int32.ofNat (f i)) ∧ keeps [(637, some 1, none)] M N) := by
  intro m
  induction m with
  | zero => intro j M h1 h2; omega
  | succ m ih =>
    intro j M hj hm h0 h1 h2
    rw [l_X5_seek_98, h0]
    refine wp_le (by omega) (by omega) (fun e => wp_some ⟨fun i hi => h2 i (by omega), keeps.rf _ _⟩) (fun hlt => ?_)
    refine wp_inb (by omega) (by omega) (wp_inb (by omega) (by omega) (wp_let (wp_let ?_)))
    rw [i_cl (x := j) (by omega), i_s, h1 j hlt]
    refine wp_mono (ih (j + 1) _ hlt (by omega) ((si_k (by decide)).trans h0) (fun i hi => (si_k (by decide)).trans (h1 i hi)) (fun i hi => ?_)) (fun N hN => ⟨hN.1, ((keeps.rf _ M).si rfl).trans hN.2⟩)
    rw [si_e]
    by_cases e : i = j
    · rw [if_pos e, e]
    · rw [if_neg e]
      exact h2 i (by omega)
/-- a better order is kept -/
theorem r_better {rec : am_M → Nat → Int32 → Int32 → Int32 → Option am_M} {M : am_M} {h : Nat} {l : List Nat} {v : Int64} (hh : h ≤ 4) (h0 : M.1 5 1 0 10 = Int32.ofNat h) (h1 : ∀ i, i < h → M.1 636 1 0 i = Int32.ofNat (l.getD i 0)) : wp (am_let (am_si M 5 1 0 39 (0 : Int32)) (fun M43 => am_let (am_sl M43 5 1 0 38 v) (fun M44 => (l_X5_seek_98 rec 1 1000 (0 : Int32) M44).bind (fun z45 => some z45)))) (fun N => Bs N h (some (v, l)) ∧ keeps [(5, some 1, some 38), (5, some 1, some 39), (637, some 1, none)] M N) := by
  refine wp_let (wp_let (wp_call (r_seek98 (f := fun i => l.getD i 0) hh 1000 0 _ (by omega) (by omega) ?_ (fun i hi => ?_) (fun i hi => absurd hi (Nat.not_lt_zero i))) (fun N hN => wp_some ⟨⟨?_, ?_, hN.1⟩, ?_⟩)))
  · rw [sl_i, si_j (by decide)]
    exact h0
  · rw [sl_i, si_k (by decide)]
    exact h1 i hi
  · rw [hN.2.i 5 1 0 39 rfl, sl_i, am_si_self]
  · rw [hN.2.l 5 1 0 38 rfl, sl_e, if_pos rfl]
  · exact (((keeps.rf _ M).si rfl).sl rfl).trans (hN.2.mono rfl)
theorem r_leaf {rec : am_M → Nat → Int32 → Int32 → Int32 → Option am_M} {M : am_M} {D : dd} {l : List Nat} {x2 x3 : Int32} {b : Option (Int64 × List Nat)} (w : WF D) (g : gdl (dh D) l) (hH : RHb M D) (ht : ∀ i, i < dh D → M.1 636 1 0 i = Int32.ofNat (l.getD i 0)) (hb : Bs M (dh D) b) : wp (f_X5_seekF M rec 1 (Int32.ofNat (dh D)) x2 x3) (fun N => Bs N (dh D) (stp x3 D b l) ∧ keeps sOa M N) := by
  have hh := w.1
  have wl := dOr_H w g
  unfold f_X5_seekF
  rw [hH.1]
  refine wp_pos rfl (wp_call (r_seek11 (f := fun i => l.getD i 0) hh 1000 0 M (by omega) (by omega) hH.1 ht (fun i hi => absurd hi (Nat.not_lt_zero i))) (fun N1 h1 => ?_))
  obtain ⟨h1, k1⟩ := h1
  have hH1 := hH.mv k1 rfl (fun _ => rfl) (fun _ => rfl)
  have hR : RH N1 1 (dOr D l) := ⟨hH1.1, fun i hi => ⟨(hH1.2 i hi).1, (hH1.2 i hi).2, h1 i hi⟩⟩
  refine wp_call (wp_km (r_seeHeaps wl hR) fr_f_X5_seeHeaps) (fun N2 h2 => ?_)
  obtain ⟨h2, k2⟩ := h2
  refine wp_call (wp_kp (r_spentNow wl.2.2.2.2 (EE_le (dOr D l) (dh D)) h2 (DP_e (dOr D l))) fr_f_X5_spentNow) (fun y hy => wp_let ?_)
  obtain ⟨hy, k3⟩ := hy
  have hv : y.1 = spv D l := hy
  rw [hv]
  have hH3 := (hH1.mv k2 rfl (fun _ => rfl) (fun _ => rfl)).mv k3 rfl (fun _ => rfl) (fun _ => rfl)
  have hb3 := ((hb.mv k1 rfl rfl (fun _ => rfl)).mv k2 rfl rfl (fun _ => rfl)).mv k3 rfl rfl (fun _ => rfl)
  have ht3 : ∀ i, i < dh D → y.2.1 636 1 0 i = Int32.ofNat (l.getD i 0) := fun i hi => by
    rw [k3.i _ _ _ _ rfl, k2.i _ _ _ _ rfl, k1.i _ _ _ _ rfl]
    exact ht i hi
  have kk : keeps sOa M y.2 := ((k1.mono rfl).trans (k2.mono rfl)).trans (k3.mono rfl)
  have nx : ∀ {x : Option am_M}, wp x (fun N => Bs N (dh D) (some (spv D l, l)) ∧ keeps [(5, some 1, some 38), (5, some 1, some 39), (637, some 1, none)] y.2 N) → stp x3 D b l = some (spv D l, l) → wp x (fun N => Bs N (dh D) (stp x3 D b l) ∧ keeps sOa M N) := fun hx e => by
    rw [e]
    exact wp_mono hx (fun N hN => ⟨hN.1, kk.trans (hN.2.mono rfl)⟩)
  cases b with
  | none =>
    rw [show y.2.1 5 1 0 39 = 1 from hb3]
    exact wp_neg (by decide) (nx (r_better hh hH3.1 ht3) rfl)
  | some p =>
    obtain ⟨v, k⟩ := p
    rw [show y.2.1 5 1 0 39 = 0 from hb3.1, show y.2.2 5 1 0 38 = v from hb3.2.1]
    refine wp_pos rfl (wp_ite (fun c => wp_ite (fun c' => wp_some ⟨?_, kk⟩) (fun c' => nx (r_better hh hH3.1 ht3) ?_)) (fun c => wp_ite (fun c' => wp_some ⟨?_, kk⟩) (fun c' => nx (r_better hh hH3.1 ht3) ?_)))
    · unfold stp
      dsimp only
      rw [if_pos c, if_pos c']
      exact hb3
    · unfold stp
      dsimp only
      rw [if_pos c, if_neg c']
    · unfold stp
      dsimp only
      rw [if_neg c, if_pos c']
      exact hb3
    · unfold stp
      dsimp only
      rw [if_neg c, if_neg c']
theorem bit_t : ∀ m, m < 16 → ∀ j, j < 4 → (((Int32.ofNat m >>> (Int32.ofNat j &&& 31)) &&& (1 : Int32)) = 0 ↔ m.testBit j = false) := by decide +kernel
theorem bit_s : ∀ m, m < 16 → ∀ j, j < 4 → (Int32.ofNat m ||| ((1 : Int32) <<< (Int32.ofNat j &&& 31))) = Int32.ofNat (m ||| 2 ^ j) ∧ (m ||| 2 ^ j) < 16 := by decide +kernel
theorem gd_lt {l : List Nat} {j i : Nat} (h : i < l.length) : (l ++ [j]).getD i 0 = l.getD i 0 := by
  rw [List.getD_eq_getElem?_getD, List.getD_eq_getElem?_getD, List.getElem?_append_left h]
theorem gd_ge (l : List Nat) (j : Nat) : (l ++ [j]).getD l.length 0 = j := by
  rw [List.getD_eq_getElem?_getD, List.getElem?_append_right (Nat.le_refl _), Nat.sub_self]
  rfl
theorem r_seek {D : dd} {x3 : Int32} (w : WF D) : ∀ (r f k m : Nat) (pre : List Nat) (M : am_M) (b : Option (Int64 × List Nat)), k + r = dh D → r < f → m < 16 → pre.length = k → (∀ l ∈ lv (dh D) r m pre, gdl (dh D) l) → RHb M D → (∀ i, i < k → M.1 636 1 0 i = Int32.ofNat (pre.getD i 0)) → Bs M (dh D) b → wp (f_X5_seek f M 1 (Int32.ofNat k) (Int32.ofNat m) x3) (fun N => Bs N (dh D) ((lv (dh D) r m pre).foldl (stp x3 D) b) ∧ (∀ i, i < k → N.1 636 1 0 i = M.1 636 1 0 i) ∧ keeps sOb M N) := by
  have hh := w.1
  intro r
  induction r with
  | zero =>
    intro f k m pre M b hk hf hm hp hl hH ht hb
    obtain ⟨f', rfl⟩ : ∃ f', f = f' + 1 := ⟨f - 1, by omega⟩
    have e : k = dh D := by omega
    subst e
    rw [f_X5_seek]
    refine wp_mono (r_leaf w (hl pre (List.mem_singleton.mpr rfl)) hH ht hb) (fun N hN => ⟨hN.1, fun i hi => hN.2.i _ _ _ _ rfl, hN.2.mono rfl⟩)
  | succ r ihr =>
    intro f k m pre M b hk hf hm hp hl hH ht hb
    obtain ⟨f', rfl⟩ : ∃ f', f = f' + 1 := ⟨f - 1, by omega⟩
    rw [f_X5_seek, f_X5_seekF, hH.1]
    refine wp_ieq (by omega) (by omega) (fun e => absurd e (by omega)) (fun _ => ?_)
    have inner : ∀ (d j n : Nat) (M : am_M) (b : Option (Int64 × List Nat)), j + d = dh D → d < n → (∀ l ∈ (List.range' j d).flatMap (fun j => if m.testBit j = true then [] else lv (dh D) r (m ||| 2 ^ j) (pre ++ [j])), gdl (dh D) l) → RHb M D → (∀ i, i < k → M.1 636 1 0 i = Int32.ofNat (pre.getD i 0)) → Bs M (dh D) b → wp (l_X5_seek_131 (f_X5_seek f') 1 (Int32.ofNat k) (Int32.ofNat m) x3 n (Int32.ofNat j) M) (fun N => Bs N (dh D) (((List.range' j d).flatMap (fun j => if m.testBit j = true then [] else lv (dh D) r (m ||| 2 ^ j) (pre ++ [j]))).foldl (stp x3 D) b) ∧ (∀ i, i < k → N.1 636 1 0 i = M.1 636 1 0 i) ∧ keeps sOb M N) := by
      intro d
      induction d with
      | zero =>
        intro j n M b hj hn hl hH ht hb
        obtain ⟨n', rfl⟩ : ∃ n', n = n' + 1 := ⟨n - 1, by omega⟩
        rw [l_X5_seek_131, hH.1]
        exact wp_le (by omega) (by omega) (fun _ => wp_some ⟨hb, fun _ _ => rfl, keeps.rf _ _⟩) (fun hlt => absurd hlt (by omega))
      | succ d ihd =>
        intro j n M b hj hn hl hH ht hb
        obtain ⟨n', rfl⟩ : ∃ n', n = n' + 1 := ⟨n - 1, by omega⟩
        have el : (List.range' j (d + 1)).flatMap (fun j => if m.testBit j = true then [] else lv (dh D) r (m ||| 2 ^ j) (pre ++ [j])) = (if m.testBit j = true then [] else lv (dh D) r (m ||| 2 ^ j) (pre ++ [j])) ++ (List.range' (j + 1) d).flatMap (fun j => if m.testBit j = true then [] else lv (dh D) r (m ||| 2 ^ j) (pre ++ [j])) := rfl
        rw [el] at hl ⊢
        rw [List.foldl_append]
        rw [l_X5_seek_131, hH.1]
        refine wp_le (by omega) (by omega) (fun h => absurd h (by omega)) (fun hlt => ?_)
        refine wp_call (Q := fun N => Bs N (dh D) ((if m.testBit j = true then [] else lv (dh D) r (m ||| 2 ^ j) (pre ++ [j])).foldl (stp x3 D) b) ∧ (∀ i, i < k → N.1 636 1 0 i = M.1 636 1 0 i) ∧ keeps sOb M N) (wp_ite (fun c => ?_) (fun c => ?_)) (fun N hN => ?_)
        · rw [bit_t m hm j (by omega)] at c
          rw [c] at hl ⊢
          rw [if_neg (show ¬ false = true from by decide)] at hl ⊢
          obtain ⟨e1, e2⟩ := bit_s m hm j (by omega)
          refine wp_inb (by omega) (by omega) (wp_let ?_)
          rw [i_cl (x := k) (by omega), i_s, e1]
          have k0 : keeps [(636, some 1, none)] M (am_si M 636 1 0 k (Int32.ofNat j)) := (keeps.rf _ M).si rfl
          refine wp_call (ihr f' (k + 1) (m ||| 2 ^ j) (pre ++ [j]) _ b (by omega) (by omega) e2 (by rw [List.length_append, hp]; rfl) (fun l hlm => hl l (List.mem_append_left _ hlm)) (hH.mv k0 rfl (fun _ => rfl) (fun _ => rfl)) (fun i hi => ?_) (hb.mv k0 rfl rfl (fun _ => rfl))) (fun N hN => wp_some ⟨hN.1, fun i hi => ?_, (k0.mono rfl).trans hN.2.2⟩)
          · rw [si_e]
            by_cases e : i = k
            · rw [if_pos e, e, ← hp, gd_ge]
            · rw [if_neg e, gd_lt (by omega)]
              exact ht i (by omega)
          · rw [hN.2.1 i (by omega), si_e, if_neg (by omega)]
        · rw [bit_t m hm j (by omega), Bool.not_eq_false] at c
          rw [c, if_pos rfl]
          exact wp_some ⟨hb, fun _ _ => rfl, keeps.rf _ _⟩
        · obtain ⟨n1, n2, n3⟩ := hN
          refine wp_let ?_
          rw [i_s]
          exact wp_mono (ihd (j + 1) n' N _ (by omega) (by omega) (fun l hlm => hl l (List.mem_append_right _ hlm)) (hH.mv n3 rfl (fun _ => rfl) (fun _ => rfl)) (fun i hi => by rw [n2 i hi]; exact ht i hi) n1) (fun N' hN' => ⟨hN'.1, fun i hi => (hN'.2.1 i hi).trans (n2 i hi), n3.trans hN'.2.2⟩)
    exact wp_call (inner (dh D) 0 1000 M b (by omega) (by omega) hl hH ht hb) (fun N hN => wp_some hN)
theorem rst_1 : dj (rstS 1) tAll = true := by decide +kernel
theorem rst_1R : dj (rstS 1) (tR5 0) = true := by decide +kernel
theorem cond_k (tr : Bool) (M : am_M) : keeps (rstS 1) M (am_cond tr M 1) := by
  cases tr with
  | false => exact rst_k M 1
  | true => exact keeps.rf _ M
theorem k_order : ok_order GT := by
  intro tr b M x1 x2 _ h
  obtain ⟨⟨D, w, hD, hR⟩, _⟩ := id h
  have hh := w.1
  by_cases hc : 0 ≤ x2.toInt ∧ x2.toInt ≤ (dh D : Int) - 1
  · obtain ⟨q, hq', rfl⟩ := i_nat (m := dh D - 1) (x := x2) ⟨hc.1, by omega⟩
    have hq : q < dh D := by have := hc.2; rw [i_ti (by omega)] at this; omega
    obtain ⟨v, bi, hb, hf, y, ey, hy, ky⟩ := c_order (x1 := x1) w hD hq
    have h1 := GTw.ag h ky rfl
    have hR1 := hR.ag ky rfl
    have k2 := cond_k tr y.2
    obtain ⟨N, eN, hN, kN⟩ := wp_km (r_takeFrom (o := 1) w (by decide) (hR1.ag k2 rst_1R)) fr_f_X5_takeFrom
    have k3 : keeps [(5, some 1, some 39)] N (am_si N 5 1 0 39 1) := (keeps.rf _ N).si rfl
    have hH : RHb (am_si N 5 1 0 39 1) D := RHb.mv ⟨hN.1, fun i hi => ⟨(hN.2.1 i hi).1, (hN.2.1 i hi).2.1⟩⟩ k3 rfl (fun _ => rfl) (fun _ => rfl)
    obtain ⟨N2, eN2, b2, _, kN2⟩ := r_seek (x3 := x1) w (dh D) 6 0 0 [] _ none (Nat.zero_add _) (by omega) (by omega) rfl (fun l hl => pL_ok (dh D) (by omega) l hl) hH (fun i hi => absurd hi (Nat.not_lt_zero i)) (by show (am_si N 5 1 0 39 1).1 5 1 0 39 = 1; rw [am_si_self])
    rw [show (lv (dh D) (dh D) 0 []).foldl (stp x1 D) none = some (v, (pL (dh D)).getD bi []) from hf] at b2
    have h2 := GTw.ag (GTw.ag (GTw.ag (GTw.ag h1 k2 rst_1) kN rfl) k3 rfl) kN2 rfl
    refine ⟨y, (true, y.1, N2), ey, wp_is ?_, rfl, h2⟩
    unfold f_X5_order f_X5_orderB
    rw [hR1.1]
    refine wp_be (f_i _ _ (l := 0) (by decide) (l_nm1 (by omega))) (wp_neg (bz_dn hc) (wp_be eN (wp_call (Q := fun z => z = (y.1, N2)) (wp_let (wp_be eN2 ?_)) (fun z hz => wp_some (by rw [hz])))))
    rw [i_cl (x := q) (by omega)]
    exact wp_inb (by omega) (by omega) (wp_some (by rw [b2.2.2 q hq, hy]))
  · have k4 := ref4_k M 2
    refine ⟨(-2, ref4 M 2), (tr, -2, ref5 (ref4 M 2) 2), wp_is ?_, wp_is ?_, rfl, gt_ref5 (by omega) (gt_ref4 (by omega) h)⟩
    · unfold f_X4_order
      rw [hD.1]
      refine wp_be (f_w M _ (i_nm1 (by omega))) (wp_bz (fun _ => wp_be (x4_ref2 M) (wp_some rfl)) (fun e1 => ?_))
      rw [decide_eq_true_eq] at e1
      exact absurd e1 hc
    · unfold f_X5_order
      rw [(hR.ag k4 rfl).1]
      refine wp_be (f_i _ _ (l := 0) (by decide) (l_nm1 (by omega))) (wp_bz (fun _ => wp_be (x5_ref2 _) (wp_some rfl)) (fun e1 => ?_))
      rw [decide_eq_true_eq] at e1
      exact absurd e1 hc
