/-! the reference's cells: heaps and facts -/
theorem wp_is {α : Type} {x : Option α} {z : α} (h : wp x (fun y => y = z)) : x = some z := by
  obtain ⟨y, e, rfl⟩ := h
  exact e
def bz (b : Bool) : Int32 := if b = true then 1 else 0
theorem bz_0 (b : Bool) : bz b = 0 ↔ b = false := by cases b <;> decide
theorem bz_1 (b : Bool) : bz b = 1 ↔ b = true := by cases b <;> decide
theorem bz_01 (b : Bool) : bz b = 0 ∨ bz b = 1 := by cases b <;> decide
theorem bz_and (b c : Bool) : bz b &&& bz c = bz (b && c) := by cases b <;> cases c <;> decide
theorem bz_d {c : Prop} [Decidable c] (h : c) : bz (decide c) = 1 := by rw [decide_eq_true h]; rfl
theorem bz_n {c : Prop} [Decidable c] (h : ¬ c) : bz (decide c) = 0 := by rw [decide_eq_false h]; rfl
theorem wp_bz {α : Type} {b : Bool} {u v : Option α} {Q : α → Prop} (h1 : b = false → wp u Q) (h2 : b = true → wp v Q) : wp (if bz b = 0 then u else v) Q :=
  wp_ite (fun h => h1 ((bz_0 b).mp h)) (fun h => h2 (by cases b; exact absurd rfl h; rfl))
theorem f_in (M : am_M) (x y z : Int64) : f_X5_in M x y z = some (bz (decide (y.toInt ≤ x.toInt ∧ x.toInt ≤ z.toInt))) := by
  unfold f_X5_in
  by_cases h1 : x < y
  · rw [if_pos ((lg_cmp_lt x y).mpr h1)]
    rw [Int64.lt_iff_toInt_lt] at h1
    rw [bz_n (by omega)]
  · rw [if_neg (fun h => h1 ((lg_cmp_lt x y).mp h))]
    rw [Int64.lt_iff_toInt_lt] at h1
    by_cases h2 : z < x
    · rw [if_pos ((lg_cmp_gt x z).mpr h2)]
      rw [Int64.lt_iff_toInt_lt] at h2
      rw [bz_n (by omega)]
    · rw [if_neg (fun h => h2 ((lg_cmp_gt x z).mp h))]
      rw [Int64.lt_iff_toInt_lt] at h2
      rw [bz_d (by omega)]
theorem f_inI (M : am_M) (x y z : Int32) : f_X5_in M x.toInt64 y.toInt64 z.toInt64 = some (bz (decide (y.toInt ≤ x.toInt ∧ x.toInt ≤ z.toInt))) := by
  rw [f_in, Int32.toInt_toInt64, Int32.toInt_toInt64, Int32.toInt_toInt64]
/-- frames by the field's number, whoever's it is -/
def kpJ (S : List (Nat × Option Nat × Option Nat)) (k j : Nat) : Bool := S.all (fun e => !(Nat.beq e.1 k) || (match e.2.2 with | none => false | some x => !(Nat.beq x j)))
theorem kpS_j {S : List (Nat × Option Nat × Option Nat)} {k j : Nat} (h : kpJ S k j = true) {o : Nat} : kpS S k o j = false := by
  unfold kpS
  rw [List.any_eq_false]
  intro e he
  have h1 := List.all_eq_true.mp h e he
  obtain ⟨e1, e2, e3⟩ := e
  intro hc
  simp only [Bool.and_eq_true] at hc
  obtain ⟨⟨c1, c2⟩, c3⟩ := hc
  cases e3 with
  | none => simp [c1] at h1
  | some x =>
    simp only at c3 h1
    rw [c1, c3] at h1
    cases h1
theorem si2 (M : am_M) (k o i j i' j' : Nat) (v : Int32) : (am_si M k o i j v).1 k o i' j' = if i' = i ∧ j' = j then v else M.1 k o i' j' := by
  by_cases h : i' = i ∧ j' = j
  · obtain ⟨rfl, rfl⟩ := h
    rw [am_si_self, if_pos ⟨rfl, rfl⟩]
  · rw [am_si_ne (fun z => h z.2.2), if_neg h]
theorem sl2 (M : am_M) (k o i j i' j' : Nat) (v : Int64) : (am_sl M k o i j v).2 k o i' j' = if i' = i ∧ j' = j then v else M.2 k o i' j' := by
  by_cases h : i' = i ∧ j' = j
  · obtain ⟨rfl, rfl⟩ := h
    rw [am_sl_self, if_pos ⟨rfl, rfl⟩]
  · rw [am_sl_ne (fun z => h z.2.2), if_neg h]
/-! sums over an order -/
theorem sm_full {c : Nat → Nat} : ∀ {n : Nat}, (∀ j, j < n → c j ≤ 1) → sm c n = n → ∀ j, j < n → c j = 1
  | 0, _, _, j, hj => absurd hj (Nat.not_lt_zero j)
  | n + 1, h, hs, j, hj => by
    have h1 := sm_le1 (S := c) (r := n) (fun i hi => h i (Nat.lt_succ_of_lt hi)) n (Nat.le_refl n)
    have h2 := h n (Nat.lt_succ_self n)
    rw [sm] at hs
    by_cases hjn : j = n
    · rw [hjn]; omega
    · exact sm_full (fun i hi => h i (Nat.lt_succ_of_lt hi)) (by omega) j (by omega)
theorem sm_const1 : ∀ n : Nat, sm (fun _ => 1) n = n
  | 0 => rfl
  | n + 1 => by rw [sm, sm_const1 n]
def oc (O : Nat → Nat) (h j : Nat) : Nat := sm (fun i => if O i = j then 1 else 0) h
theorem oc_le {O : Nat → Nat} {h j : Nat} (hi : ∀ i k, i < h → k < h → O i = O k → i = k) : oc O h j ≤ 1 := by
  by_cases hx : ∃ e, e < h ∧ O e = j
  · obtain ⟨e, he, hj⟩ := hx
    have e1 : oc O h j = if O e = j then 1 else 0 := sm_one (e := e) he (fun a ha hne => if_neg (fun hz => hne (hi a e ha he (hz.trans hj.symm))))
    rw [e1, if_pos hj]
    exact Nat.le_refl 1
  · have e1 : oc O h j = 0 := sm_zero (fun a ha => if_neg (fun hz => hx ⟨a, ha, hz⟩))
    omega
theorem sm_by {O f : Nat → Nat} {h : Nat} (h1 : ∀ i, i < h → O i < h) : sm (fun i => f (O i)) h = sm (fun j => f j * oc O h j) h := by
  have e1 : sm (fun i => f (O i)) h = sm (fun i => sm (fun j => if O i = j then f j else 0) h) h := sm_congr (fun i hi => by
    have e : sm (fun j => if O i = j then f j else 0) h = if O i = O i then f (O i) else 0 := sm_one (e := O i) (h1 i hi) (fun a _ hne => if_neg (fun hz => hne hz.symm))
    rw [if_pos rfl] at e
    exact e.symm)
  rw [e1, sm_comm (fun i j => if O i = j then f j else 0)]
  refine sm_congr (fun j _ => ?_)
  have e2 : sm (fun i => f j * (if O i = j then 1 else 0)) h = f j * oc O h j := sm_mul _ _ _
  rw [← e2]
  refine sm_congr (fun i _ => ?_)
  by_cases hc : O i = j
  · rw [if_pos hc, if_pos hc, Nat.mul_one]
  · rw [if_neg hc, if_neg hc, Nat.mul_zero]
theorem oc_1 {O : Nat → Nat} {h : Nat} (h1 : ∀ i, i < h → O i < h) (h2 : ∀ i k, i < h → k < h → O i = O k → i = k) : ∀ j, j < h → oc O h j = 1 := sm_full (fun j _ => oc_le h2) (by
    have e : sm (fun _ => 1) h = sm (fun j => 1 * oc O h j) h := sm_by (f := fun _ => 1) h1
    have e2 : sm (fun j => 1 * oc O h j) h = sm (oc O h) h := sm_congr (fun j _ => Nat.one_mul _)
    rw [e2, sm_const1] at e
    exact e.symm)
theorem sm_perm {O : Nat → Nat} (f : Nat → Nat) {h : Nat} (h1 : ∀ i, i < h → O i < h) (h2 : ∀ i k, i < h → k < h → O i = O k → i = k) : sm (fun i => f (O i)) h = sm f h := by
  rw [sm_by h1]
  exact sm_congr (fun j hj => by rw [oc_1 h1 h2 j hj, Nat.mul_one])
theorem perm_at {O : Nat → Nat} {h j : Nat} (h1 : ∀ i, i < h → O i < h) (h2 : ∀ i k, i < h → k < h → O i = O k → i = k) (hj : j < h) : ∃ i, i < h ∧ O i = j := by
  by_cases hx : ∃ e, e < h ∧ O e = j
  · exact hx
  · have e1 : oc O h j = 0 := sm_zero (fun a ha => if_neg (fun hz => hx ⟨a, ha, hz⟩))
    rw [oc_1 h1 h2 j hj] at e1
    cases e1
/-! heaps alone -/
def WH (D : dd) : Prop := dh D ≤ 4 ∧ (∀ i, i < dh D → dA D i ≤ 9 ∧ dB D i ≤ 9 ∧ 1 ≤ dA D i + dB D i) ∧ (∀ i, i < dh D → dO D i < dh D) ∧ (∀ i j, i < dh D → j < dh D → dO D i = dO D j → i = j) ∧ dn D ≤ 24
theorem WF.H {D : dd} (w : WF D) : WH D := ⟨w.1, w.2.1, w.2.2.1, w.2.2.2.1, w.2.2.2.2.1⟩
def RH (M : am_M) (o : Nat) (D : dd) : Prop := M.1 5 o 0 10 = Int32.ofNat (dh D) ∧ (∀ i, i < dh D → M.1 611 o 0 i = Int32.ofNat (dA D i) ∧ M.1 612 o 0 i = Int32.ofNat (dB D i) ∧ M.1 613 o 0 i = Int32.ofNat (dO D i))
theorem RF.H {M : am_M} {o : Nat} {D : dd} (h : RF M o D) : RH M o D := ⟨h.1, h.2.1⟩
theorem RH.cong {M N : am_M} {o : Nat} {D : dd} (h : RH M o D) (h0 : N.1 5 o 0 10 = M.1 5 o 0 10) (h1 : ∀ i, N.1 611 o 0 i = M.1 611 o 0 i) (h2 : ∀ i, N.1 612 o 0 i = M.1 612 o 0 i) (h3 : ∀ i, N.1 613 o 0 i = M.1 613 o 0 i) : RH N o D :=
  ⟨h0.trans h.1, fun i hi => ⟨(h1 i).trans (h.2 i hi).1, (h2 i).trans (h.2 i hi).2.1, (h3 i).trans (h.2 i hi).2.2⟩⟩
theorem RH.mv {M N : am_M} {o : Nat} {D : dd} {S : List (Nat × Option Nat × Option Nat)} (h : RH M o D) (hk : keeps S M N) (h0 : kpJ S 5 10 = true) (h1 : ∀ j, kpS S 611 o j = false) (h2 : ∀ j, kpS S 612 o j = false) (h3 : ∀ j, kpS S 613 o j = false) : RH N o D :=
  h.cong (hk.i _ _ _ _ (kpS_j h0)) (fun i => hk.i _ _ _ _ (h1 i)) (fun i => hk.i _ _ _ _ (h2 i)) (fun i => hk.i _ _ _ _ (h3 i))
theorem dn_eq {D : dd} (w : WH D) : dn D = sm (dA D) (dh D) + sm (dB D) (dh D) := by
  have e : dn D = sm (fun i => dA D i + dB D i) (dh D) := sm_perm (fun i => dA D i + dB D i) w.2.2.1 w.2.2.2.1
  rw [e, sm_add]
theorem de_eq {D : dd} (w : WH D) : de D = sm (dA D) (dh D) := sm_perm (dA D) w.2.2.1 w.2.2.2.1
theorem de_le {D : dd} : de D ≤ dn D := sm_AB (fun i => dA D (dO D i)) (fun i => dB D (dO D i)) (dh D)
theorem r_allA_4 {M : am_M} {o h : Nat} {A : Nat → Nat} (hh : h ≤ 4) (h0 : M.1 5 o 0 10 = Int32.ofNat h) (hA : ∀ i, i < h → M.1 611 o 0 i = Int32.ofNat (A i)) : ∀ (m j : Nat), j ≤ h → h + 1 ≤ m + j → wp (l_X5_allA_4 M o m (Int32.ofNat (sm A j)) (Int32.ofNat j)) (fun y => y = Int32.ofNat (sm A h)) := by
  intro m
  induction m with
  | zero => intro j h1 h2; omega
  | succ m ih =>
    intro j hj hm
    rw [l_X5_allA_4, h0]
    refine wp_le (by omega) (by omega) (fun h' => ?_) (fun hlt => ?_)
    · have e : j = h := by omega
      subst e
      exact wp_some rfl
    refine wp_inb (by omega) (by omega) (wp_let (wp_let ?_))
    rw [i_cl (by omega), hA j hlt, i_add, i_s]
    exact ih (j + 1) (by omega) (by omega)
theorem r_all_7 {M : am_M} {o h c : Nat} {B : Nat → Nat} (hh : h ≤ 4) (h0 : M.1 5 o 0 10 = Int32.ofNat h) (hB : ∀ i, i < h → M.1 612 o 0 i = Int32.ofNat (B i)) : ∀ (m j : Nat), j ≤ h → h + 1 ≤ m + j → wp (l_X5_all_7 M o m (Int32.ofNat (c + sm B j)) (Int32.ofNat j)) (fun y => y = Int32.ofNat (c + sm B h)) := by
  intro m
  induction m with
  | zero => intro j h1 h2; omega
  | succ m ih =>
    intro j hj hm
    rw [l_X5_all_7, h0]
    refine wp_le (by omega) (by omega) (fun h' => ?_) (fun hlt => ?_)
    · have e : j = h := by omega
      subst e
      exact wp_some rfl
    refine wp_inb (by omega) (by omega) (wp_let (wp_let ?_))
    rw [i_cl (by omega), hB j hlt, i_add, i_s, Nat.add_assoc]
    exact ih (j + 1) (by omega) (by omega)
theorem r_allA {M : am_M} {o : Nat} {D : dd} (w : WH D) (h : RH M o D) : f_X5_allA M o = some (Int32.ofNat (de D)) := by
  unfold f_X5_allA
  rw [de_eq w]
  have h4 := w.1
  exact wp_is (wp_call (r_allA_4 w.1 h.1 (fun i hi => (h.2 i hi).1) 1000 0 (by omega) (by omega)) (fun y hy => wp_some hy))
theorem r_all {M : am_M} {o : Nat} {D : dd} (w : WH D) (h : RH M o D) : f_X5_all M o = some (Int32.ofNat (dn D)) := by
  unfold f_X5_all
  rw [dn_eq w]
  have h4 := w.1
  refine wp_is (wp_be (r_allA w h) ?_)
  rw [de_eq w]
  exact wp_call (r_all_7 (c := sm (dA D) (dh D)) w.1 h.1 (fun i hi => (h.2 i hi).2.1) 1000 0 (by omega) (by omega)) (fun y hy => wp_some hy)
/-! seeHeaps -/
def RM (M : am_M) (o n : Nat) (P : Nat → Nat → Bool) : Prop := M.1 5 o 0 29 = Int32.ofNat n ∧ ∀ t a, t ≤ n → a ≤ 24 → M.1 728 o t a = bz (P t a)
theorem RM.cong {M : am_M} {o n : Nat} {P Q : Nat → Nat → Bool} (h : RM M o n P) (hq : ∀ t a, t ≤ n → a ≤ 24 → P t a = Q t a) : RM M o n Q := ⟨h.1, fun t a ht ha => by rw [h.2 t a ht ha, hq t a ht ha]⟩
theorem RM.mv {M N : am_M} {o n : Nat} {P : Nat → Nat → Bool} {S : List (Nat × Option Nat × Option Nat)} (h : RM M o n P) (hk : keeps S M N) (h0 : kpJ S 5 29 = true) (h1 : ∀ j, kpS S 728 o j = false) : RM N o n P :=
  ⟨(hk.i _ _ _ _ (kpS_j h0)).trans h.1, fun t a ht ha => (hk.i _ _ _ _ (h1 a)).trans (h.2 t a ht ha)⟩
theorem r_see18 {o t : Nat} (ht : t ≤ 24) : ∀ (m a : Nat) (M : am_M), a ≤ 25 → 26 ≤ m + a → wp (l_X5_seeHeaps_18 o (Int32.ofNat t) m (Int32.ofNat a) M) (fun N => ∀ s b, N.1 728 o s b = if s = t ∧ a ≤ b ∧ b ≤ 24 then 0 else M.1 728 o s b) := by
  intro m
  induction m with
  | zero => intro a M h1 h2; omega
  | succ m ih =>
    intro a M ha hm
    rw [l_X5_seeHeaps_18]
    refine wp_lt (x := 24) (by omega) (by omega) (fun h => wp_some (fun s b => by rw [if_neg (by omega)])) (fun h => ?_)
    refine wp_inb (by omega) (by omega) (wp_inb (by omega) (by omega) (wp_let (wp_let ?_)))
    rw [i_cl (x := t) (by omega), i_cl (x := a) (by omega), i_s]
    refine wp_mono (ih (a + 1) _ (by omega) (by omega)) (fun N hN s b => ?_)
    rw [hN s b, si2]
    by_cases hc : s = t ∧ b = a
    · rw [if_neg (show ¬ (s = t ∧ a + 1 ≤ b ∧ b ≤ 24) from by omega), if_pos hc, if_pos (show s = t ∧ a ≤ b ∧ b ≤ 24 from by omega)]
    · by_cases hd : s = t ∧ a ≤ b ∧ b ≤ 24
      · rw [if_pos (show s = t ∧ a + 1 ≤ b ∧ b ≤ 24 from by omega), if_pos hd]
      · rw [if_neg (show ¬ (s = t ∧ a + 1 ≤ b ∧ b ≤ 24) from by omega), if_neg hc, if_neg hd]
theorem r_see10 {o : Nat} : ∀ (m t : Nat) (M : am_M), t ≤ 25 → 26 ≤ m + t → wp (l_X5_seeHeaps_10 o m (Int32.ofNat t) M) (fun N => ∀ s b, N.1 728 o s b = if t ≤ s ∧ s ≤ 24 ∧ b ≤ 24 then 0 else M.1 728 o s b) := by
  intro m
  induction m with
  | zero => intro t M h1 h2; omega
  | succ m ih =>
    intro t M ht hm
    rw [l_X5_seeHeaps_10]
    refine wp_lt (x := 24) (by omega) (by omega) (fun h => wp_some (fun s b => by rw [if_neg (by omega)])) (fun h => ?_)
    refine wp_call (r_see18 (by omega) 1000 0 M (by omega) (by omega)) (fun N hN => wp_let ?_)
    rw [i_s]
    refine wp_mono (ih (t + 1) N (by omega) (by omega)) (fun N' hN' s b => ?_)
    rw [hN' s b, hN s b]
    by_cases hd : t ≤ s ∧ s ≤ 24 ∧ b ≤ 24
    · rw [if_pos hd]
      by_cases hs : s = t
      · rw [if_neg (show ¬ (t + 1 ≤ s ∧ s ≤ 24 ∧ b ≤ 24) from by omega), if_pos (show s = t ∧ 0 ≤ b ∧ b ≤ 24 from by omega)]
      · rw [if_pos (show t + 1 ≤ s ∧ s ≤ 24 ∧ b ≤ 24 from by omega)]
    · rw [if_neg hd, if_neg (show ¬ (t + 1 ≤ s ∧ s ≤ 24 ∧ b ≤ 24) from by omega), if_neg (show ¬ (s = t ∧ 0 ≤ b ∧ b ≤ 24) from by omega)]
theorem r_see106 {o S E g A B k : Nat} {a3 a5 : Int32} (hg : g < 4) (hS : S + k ≤ 24) (hE : E + A ≤ 24) (hB : B ≤ 24) : ∀ (m x : Nat) (M : am_M), x ≤ A + 1 → A + 2 ≤ m + x → M.1 611 o 0 g = Int32.ofNat A → M.1 612 o 0 g = Int32.ofNat B → wp (l_X5_seeHeaps_106 o (Int32.ofNat S) (Int32.ofNat E) a3 (Int32.ofNat g) a5 (Int32.ofNat k) m (Int32.ofNat x) M) (fun N => ∀ s b, N.1 728 o s b = if s = S + k ∧ E + x ≤ b ∧ b ≤ E + A ∧ b ≤ E + k then bz (decide (k + E ≤ b + B)) else M.1 728 o s b) := by
  intro m
  induction m with
  | zero => intro x M h1 h2; omega
  | succ m ih =>
    intro x M hx hm hA1 hB1
    rw [l_X5_seeHeaps_106, i_cl (x := g) (by omega), hA1, hB1, i_add S k, i_add E x]
    refine wp_inb hg (by omega) ?_
    refine wp_lt (by omega) (by omega) (fun h => wp_some (fun s b => by rw [if_neg (by omega)])) (fun h1 => ?_)
    refine wp_lt (by omega) (by omega) (fun h => wp_some (fun s b => by rw [if_neg (by omega)])) (fun h2 => ?_)
    rw [i_sub h2]
    refine wp_inb (by omega) (by omega) (wp_inb hg (by omega) ?_)
    refine wp_call (Q := fun z => z = bz (decide (k ≤ x + B))) (wp_lt (by omega) (by omega) (fun h => wp_some (by rw [bz_n (by omega)])) (fun h => wp_some (by rw [bz_d (by omega)]))) (fun z hz => ?_)
    subst hz
    refine wp_inb (by omega) (by omega) (wp_pos (bz_01 _) (wp_let (wp_let ?_)))
    rw [i_cl (x := S + k) (by omega), i_cl (x := E + x) (by omega), i_s]
    refine wp_mono (ih (x + 1) _ (by omega) (by omega) (by rw [si_k (by decide)]; exact hA1) (by rw [si_k (by decide)]; exact hB1)) (fun N hN s b => ?_)
    rw [hN s b, si2]
    by_cases hc : s = S + k ∧ b = E + x
    · rw [if_neg (show ¬ (s = S + k ∧ E + (x + 1) ≤ b ∧ b ≤ E + A ∧ b ≤ E + k) from by omega), if_pos hc, if_pos (show s = S + k ∧ E + x ≤ b ∧ b ≤ E + A ∧ b ≤ E + k from by omega), show decide (k ≤ x + B) = decide (k + E ≤ b + B) from by rw [decide_eq_decide]; omega]
    · by_cases hd : s = S + k ∧ E + x ≤ b ∧ b ≤ E + A ∧ b ≤ E + k
      · rw [if_pos (show s = S + k ∧ E + (x + 1) ≤ b ∧ b ≤ E + A ∧ b ≤ E + k from by omega), if_pos hd]
      · rw [if_neg (show ¬ (s = S + k ∧ E + (x + 1) ≤ b ∧ b ≤ E + A ∧ b ≤ E + k) from by omega), if_neg hc, if_neg hd]
theorem r_see96 {o S E g A B : Nat} {a3 : Int32} (hg : g < 4) (hS : S + A + B ≤ 24) (hE : E + A ≤ 24) : ∀ (m k : Nat) (M : am_M), 1 ≤ k → k ≤ A + B + 1 → A + B + 2 ≤ m + k → M.1 611 o 0 g = Int32.ofNat A → M.1 612 o 0 g = Int32.ofNat B → wp (l_X5_seeHeaps_96 o (Int32.ofNat S) (Int32.ofNat E) a3 (Int32.ofNat g) (Int32.ofNat (A + B)) m (Int32.ofNat k) M) (fun N => ∀ s b, N.1 728 o s b = if S + k ≤ s ∧ s ≤ S + A + B ∧ E ≤ b ∧ b ≤ E + A ∧ b + S ≤ E + s then bz (decide (s + E ≤ b + S + B)) else M.1 728 o s b) := by
  intro m
  induction m with
  | zero => intro k M h1 h2; omega
  | succ m ih =>
    intro k M hk1 hk hm hA1 hB1
    rw [l_X5_seeHeaps_96]
    refine wp_lt (by omega) (by omega) (fun h => wp_some (fun s b => by rw [if_neg (by omega)])) (fun h1 => ?_)
    refine wp_call (wp_km (r_see106 (k := k) hg (by omega) hE (by omega) 1000 0 M (by omega) (by omega) hA1 hB1) (fr_l_X5_seeHeaps_106 _ _ _)) (fun N hN => wp_let ?_)
    obtain ⟨hN, hkp⟩ := hN
    rw [i_s]
    refine wp_mono (ih (k + 1) N (by omega) (by omega) (by omega) ((hkp.i _ _ _ _ rfl).trans hA1) ((hkp.i _ _ _ _ rfl).trans hB1)) (fun N' hN' s b => ?_)
    rw [hN' s b, hN s b]
    by_cases hs : s = S + k
    · rw [if_neg (show ¬ (S + (k + 1) ≤ s ∧ s ≤ S + A + B ∧ E ≤ b ∧ b ≤ E + A ∧ b + S ≤ E + s) from by omega)]
      by_cases hd : S + k ≤ s ∧ s ≤ S + A + B ∧ E ≤ b ∧ b ≤ E + A ∧ b + S ≤ E + s
      · rw [if_pos hd, if_pos (show s = S + k ∧ E + 0 ≤ b ∧ b ≤ E + A ∧ b ≤ E + k from by omega), show decide (k + E ≤ b + B) = decide (s + E ≤ b + S + B) from by rw [decide_eq_decide]; omega]
      · rw [if_neg hd, if_neg (show ¬ (s = S + k ∧ E + 0 ≤ b ∧ b ≤ E + A ∧ b ≤ E + k) from by omega)]
    · rw [if_neg (show ¬ (s = S + k ∧ E + 0 ≤ b ∧ b ≤ E + A ∧ b ≤ E + k) from by omega)]
      by_cases hd : S + k ≤ s ∧ s ≤ S + A + B ∧ E ≤ b ∧ b ≤ E + A ∧ b + S ≤ E + s
      · rw [if_pos hd, if_pos (show S + (k + 1) ≤ s ∧ s ≤ S + A + B ∧ E ≤ b ∧ b ≤ E + A ∧ b + S ≤ E + s from by omega)]
      · rw [if_neg hd, if_neg (show ¬ (S + (k + 1) ≤ s ∧ s ≤ S + A + B ∧ E ≤ b ∧ b ≤ E + A ∧ b + S ≤ E + s) from by omega)]
theorem r_see60 {o : Nat} {D : dd} (w : WH D) : ∀ (m j : Nat) (M : am_M), j ≤ dh D → dh D + 1 ≤ m + j → RH M o D → (∀ s b, s ≤ 24 → b ≤ 24 → M.1 728 o s b = bz (decide (s ≤ sm (fun i => dA D (dO D i) + dB D (dO D i)) j) && PH (fun i => dA D (dO D i)) (fun i => dB D (dO D i)) j s b)) → wp (l_X5_seeHeaps_60 o m (Int32.ofNat (sm (fun i => dA D (dO D i) + dB D (dO D i)) j)) (Int32.ofNat (sm (fun i => dA D (dO D i)) j)) (Int32.ofNat j) M) (fun N => ∀ s b, s ≤ 24 → b ≤ 24 → N.1 728 o s b = bz (decide (s ≤ dn D) && DP D s b)) := by
  intro m
  induction m with
  | zero => intro j M h1 h2; omega
  | succ m ih =>
    intro j M hj hm hR hC
    have h4 := w.1
    rw [l_X5_seeHeaps_60, hR.1]
    refine wp_le (by omega) (by omega) (fun h' => ?_) (fun hlt => ?_)
    · have e : j = dh D := by omega
      subst e
      exact wp_some hC
    have hO := w.2.2.1 j hlt
    obtain ⟨a1, a2, a3⟩ := hR.2 j hlt
    obtain ⟨b1, b2, b3⟩ := hR.2 (dO D j) hO
    have b4 : sm (fun i => dA D (dO D i) + dB D (dO D i)) (j + 1) ≤ 24 := Nat.le_trans (sm_le (by omega)) w.2.2.2.2
    have b5 : sm (fun i => dA D (dO D i) + dB D (dO D i)) (j + 1) = sm (fun i => dA D (dO D i) + dB D (dO D i)) j + (dA D (dO D j) + dB D (dO D j)) := rfl
    have b6 := sm_AB (fun i => dA D (dO D i)) (fun i => dB D (dO D i)) (j + 1)
    have b7 : sm (fun i => dA D (dO D i)) (j + 1) = sm (fun i => dA D (dO D i)) j + dA D (dO D j) := rfl
    rw [i_cl (x := j) (by omega), a3]
    refine wp_inb (by omega) (by omega) (wp_let (wp_inb (by omega) (by omega) (wp_inb (by omega) (by omega) ?_)))
    rw [i_cl (x := dO D j) (by omega), b1, b2, i_add]
    refine wp_let (wp_call (wp_km (r_see96 (S := sm (fun i => dA D (dO D i) + dB D (dO D i)) j) (E := sm (fun i => dA D (dO D i)) j) (g := dO D j) (by omega) (by omega) (by omega) 1000 1 M (by omega) (by omega) (by omega) b1 b2) (fr_l_X5_seeHeaps_96 _ _ _)) (fun N hN => ?_))
    obtain ⟨hN, hkp⟩ := hN
    refine wp_let (wp_inb (by omega) (by omega) (wp_let (wp_let ?_)))
    rw [(hkp.i 611 o 0 (dO D j) rfl).trans b1, i_add, i_add, i_s, ← b5, ← b7]
    refine ih (j + 1) N (by omega) (by omega) (hR.mv hkp rfl (fun _ => rfl) (fun _ => rfl) (fun _ => rfl)) (fun s b hs hb => ?_)
    rw [hN s b, hC s b hs hb, PH]
    by_cases h1 : s ≤ sm (fun i => dA D (dO D i) + dB D (dO D i)) j
    · rw [if_neg (by omega), if_pos h1, decide_eq_true h1, decide_eq_true (show s ≤ sm (fun i => dA D (dO D i) + dB D (dO D i)) (j + 1) from by omega)]
    · rw [if_neg h1, decide_eq_false h1, Bool.false_and]
      by_cases hd : sm (fun i => dA D (dO D i) + dB D (dO D i)) j + 1 ≤ s ∧ s ≤ sm (fun i => dA D (dO D i) + dB D (dO D i)) j + dA D (dO D j) + dB D (dO D j) ∧ sm (fun i => dA D (dO D i)) j ≤ b ∧ b ≤ sm (fun i => dA D (dO D i)) j + dA D (dO D j) ∧ b + sm (fun i => dA D (dO D i) + dB D (dO D i)) j ≤ sm (fun i => dA D (dO D i)) j + s
      · rw [if_pos hd, ← Bool.decide_and]
        congr 1
        rw [decide_eq_decide]
        omega
      · rw [if_neg hd, ← Bool.decide_and]
        congr 1
        symm
        rw [decide_eq_false_iff_not]
        omega
theorem r_seeHeaps {M : am_M} {o : Nat} {D : dd} (w : WH D) (h : RH M o D) : wp (f_X5_seeHeaps M o) (fun N => RM N o (dn D) (DP D)) := by
  unfold f_X5_seeHeaps
  have h4 := w.1
  have h5 := w.2.2.2.2
  refine wp_be (r_all w h) (wp_let ?_)
  refine wp_call (wp_km (r_see10 1000 0 _ (by omega) (by omega)) (fr_l_X5_seeHeaps_10 _ _ _)) (fun N hN => wp_let ?_)
  obtain ⟨hN, hk⟩ := hN
  rw [show (0 : Int32).toNatClampNeg = 0 from rfl]
  refine wp_call (wp_km (r_see60 w 1000 0 _ (by omega) (by omega) ?_ ?_) (fr_l_X5_seeHeaps_60 _ _ _ _ _)) (fun N2 hN2 => wp_some ⟨?_, fun t a ht ha => ?_⟩)
  · exact h.cong (by rw [si_k (by decide), hk.i 5 o 0 10 rfl, si_j (by decide)]) (fun i => by rw [si_k (by decide), hk.i 611 o 0 i rfl, si_k (by decide)]) (fun i => by rw [si_k (by decide), hk.i 612 o 0 i rfl, si_k (by decide)]) (fun i => by rw [si_k (by decide), hk.i 613 o 0 i rfl, si_k (by decide)])
  · intro s b hs hb
    rw [si2, hN s b, if_pos (show 0 ≤ s ∧ s ≤ 24 ∧ b ≤ 24 from by omega)]
    show _ = bz (decide (s ≤ 0) && decide (s = 0 ∧ b = 0))
    by_cases hc : s = 0 ∧ b = 0
    · rw [if_pos hc, decide_eq_true hc, decide_eq_true (show s ≤ 0 from by omega)]
      rfl
    · rw [if_neg hc, decide_eq_false hc, Bool.and_false]
      rfl
  · rw [hN2.2.i 5 o 0 29 rfl, si_k (by decide), hk.i 5 o 0 29 rfl, am_si_self]
  · rw [hN2.1 t a (by omega) ha, decide_eq_true ht, Bool.true_and]
theorem PH_gt (A B : Nat → Nat) : ∀ (j : Nat) {t a : Nat}, t < a → PH A B j t a = false
  | 0, t, a, h => by
    show decide (t = 0 ∧ a = 0) = false
    rw [decide_eq_false_iff_not]
    omega
  | j + 1, t, a, h => by
    have h1 := sm_AB A B j
    rw [PH]
    by_cases hc : t ≤ sm (fun i => A i + B i) j
    · rw [if_pos hc]
      exact PH_gt A B j h
    · rw [if_neg hc, decide_eq_false_iff_not]
      omega
theorem PH_end (A B : Nat → Nat) : ∀ (j a : Nat), PH A B j (sm (fun i => A i + B i) j) a = decide (a = sm A j)
  | 0, a => by
    have e0 : PH A B 0 (sm (fun i => A i + B i) 0) a = PH A B 0 0 a := rfl
    rw [e0, PH_0]
    rfl
  | j + 1, a => by
    have e1 : sm (fun i => A i + B i) (j + 1) = sm (fun i => A i + B i) j + (A j + B j) := rfl
    have e2 : sm A (j + 1) = sm A j + A j := rfl
    rw [PH, e1, e2]
    by_cases hc : sm (fun i => A i + B i) j + (A j + B j) ≤ sm (fun i => A i + B i) j
    · rw [if_pos hc, show sm (fun i => A i + B i) j + (A j + B j) = sm (fun i => A i + B i) j from by omega, PH_end A B j a, decide_eq_decide]
      omega
    · rw [if_neg hc, decide_eq_decide]
      omega
theorem DP_gt (D : dd) {t a : Nat} (h : t < a) : DP D t a = false := PH_gt _ _ _ h
theorem DP_end (D : dd) (a : Nat) : DP D (dn D) a = decide (a = de D) := PH_end _ _ _ a
theorem PF_gt (D : dd) {t a : Nat} (h : t < a) : PF D t a = false := by
  unfold PF
  rw [DP_gt D h]
  rfl
theorem PF_end (D : dd) {a : Nat} (h : PF D (dn D) a = true) : a = de D := by
  unfold PF at h
  rw [DP_end] at h
  simp only [Bool.and_eq_true, decide_eq_true_eq] at h
  exact h.1.1
