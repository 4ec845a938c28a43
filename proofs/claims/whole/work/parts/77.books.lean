/-! unlike -/
theorem c_agB {M : am_M} {p q m n : Nat} {c d : Nat → Nat} {D : dd} (hp : p < 8) (hq : q < 8) (w : WF D) (hD : DR M 0 D) (h1 : sR3 M p m c) (h2 : sR3 M q n d) (ea : f_X4_againstRows M (Int32.ofNat p) (Int32.ofNat q) = some 0) : f_X4_againstBooks M (Int32.ofNat p) (Int32.ofNat q) = some (if m = dn D ∧ n = dn D then 0 else -2) := by
  have hn := w.2.2.2.2.1
  have hm := h1.1
  have hn2 := h2.1
  unfold f_X4_againstBooks
  rw [i_cl (x := p) (by omega), i_cl (x := q) (by omega), h1.2.1, h2.2.1, hD.2.1]
  exact wp_is (wp_be ea (wp_pos rfl (wp_inb hp (by omega) (wp_ieq (by omega) (by omega) (fun e => wp_inb hq (by omega) (wp_ieq (by omega) (by omega) (fun e' => wp_some (by rw [if_pos ⟨e, e'⟩])) (fun e' => wp_some (by rw [if_neg (fun z => e' z.2)])))) (fun e => wp_some (by rw [if_neg (fun z => e z.1)]))))))
theorem r_noB {M : am_M} {p q m n : Nat} {c d : Nat → Nat} {D : dd} (hp : p < 8) (hq : q < 8) (w : WF D) (hR : RF M 0 D) (h1 : sR3 M p m c) (h2 : sR3 M q n d) (ea : f_X5_noRows M 0 (Int32.ofNat p) (Int32.ofNat q) 0 = some (0, M)) : f_X5_noBooks M 0 (Int32.ofNat p) (Int32.ofNat q) = some (if m = dn D ∧ n = dn D then (0, M) else (-2, ref5 M 2)) := by
  have hn := w.2.2.2.2.1
  have hm := h1.1
  have hn2 := h2.1
  unfold f_X5_noBooks
  refine wp_is (wp_be ea (wp_let (wp_pos rfl ?_)))
  dsimp only
  rw [i_cl (x := p) (by omega), i_cl (x := q) (by omega), h1.2.2.1, h2.2.2.1]
  exact wp_inb hp (by omega) (wp_be (r_all w.H hR.H) (wp_ieq (by omega) (by omega) (fun e => wp_inb hq (by omega) (wp_be (r_all w.H hR.H) (wp_ieq (by omega) (by omega) (fun e' => wp_some (by rw [if_pos ⟨e, e'⟩])) (fun e' => wp_be (x5_ref2 M) (wp_some (by rw [if_neg (fun z => e' z.2)])))))) (fun e => wp_be (x5_ref2 M) (wp_some (by rw [if_neg (fun z => e z.1)])))))
theorem c_agBn {M : am_M} {x y : Int32} {v : Int32} (ea : f_X4_againstRows M x y = some v) (hv : ¬ v = 0) : f_X4_againstBooks M x y = some v := by
  unfold f_X4_againstBooks
  exact wp_is (wp_be ea (wp_neg hv (wp_some rfl)))
theorem r_noBn {M : am_M} {x y : Int32} {v : Int32} {N : am_M} (ea : f_X5_noRows M 0 x y 0 = some (v, N)) (hv : ¬ v = 0) : f_X5_noBooks M 0 x y = some (v, N) := by
  unfold f_X5_noBooks
  exact wp_is (wp_be ea (wp_let (wp_neg hv (wp_some rfl))))
/-- what both say of two books, before they are read -/
theorem books_in {tr b : Bool} {M : am_M} {x1 x2 : Int32} (h : GT tr b M) {F4 : Int32 → Option (Int32 × am_M)} {F5 : am_M → Int32 × am_M → Option (Int32 × am_M)} (e4 : ∀ v : Int32, ¬ v = 0 → f_X4_againstBooks M x1 x2 = some v → F4 v = (f_X4_refuse M v).bind (fun r => some (r.1, r.2))) (e5 : ∀ (N : am_M) (r : Int32 × am_M), ¬ r.1 = 0 → F5 N r = some r) (x : Option (Int32 × am_M)) (g : am_M → Option (Int32 × am_M)) (ex : x = (f_X4_againstBooks M x1 x2).bind F4) (eg : ∀ N, g N = (f_X5_noBooks N 0 x1 x2).bind (F5 N)) (hrow : ∀ (p q : Nat) (c d : Nat → Nat) (D : dd), p < 8 → q < 8 → x1 = Int32.ofNat p → x2 = Int32.ofNat q → WF D → DR M 0 D → RF M 0 D → sR3 M p (dn D) c → sR3 M q (dn D) d → f_X4_againstBooks M x1 x2 = some 0 → (∀ N, M.1 = N.1 → M.2 = N.2 → f_X5_noBooks N 0 x1 x2 = some (0, N)) → ∃ y z, x = some y ∧ g y.2 = some z ∧ y.1 = z.1 ∧ GT tr b z.2) : ∃ y z, x = some y ∧ g y.2 = some z ∧ y.1 = z.1 ∧ GT tr b z.2 := by
  obtain ⟨⟨D, w, hD, hR⟩, _⟩ := id h
  have fin : ∀ (v : Int32) (k : Nat), 2 ≤ k → ¬ v = 0 → f_X4_againstBooks M x1 x2 = some v → f_X4_refuse M v = some (v, ref4 M k) → f_X5_noBooks (ref4 M k) 0 x1 x2 = some (v, ref5 (ref4 M k) k) → ∃ y z, x = some y ∧ g y.2 = some z ∧ y.1 = z.1 ∧ GT tr b z.2 := by
    intro v k hk hv a1 a2 a3
    refine gt_r1 (g := g) (v := v) (w := k) hk h ?_ ?_
    · rw [ex, a1]
      show F4 v = _
      rw [e4 v hv a1, a2]
      rfl
    · rw [eg, a3]
      exact e5 _ _ hv
  by_cases hc : (0 ≤ x1.toInt ∧ x1.toInt ≤ 7) ∧ (0 ≤ x2.toInt ∧ x2.toInt ≤ 7)
  · obtain ⟨p, hp, e1⟩ := i_nat (m := 7) hc.1
    obtain ⟨q, hq, e2⟩ := i_nat (m := 7) hc.2
    have hp8 : p < 8 := by omega
    have hq8 : q < 8 := by omega
    obtain ⟨c, hF, hr, hd⟩ := sF_c (h.2.1 p hp8)
    obtain ⟨d, hF2, hr2, hd2⟩ := sF_c (h.2.1 q hq8)
    have ea := c_agR (M := M) hp8 hq8 hF hF2
    have z1 := hF.2.1
    have z2 := hF2.2.1
    by_cases h2 : c = 2 ∨ d = 2
    · rw [if_pos h2, ← e1, ← e2] at ea
      have en := r_noRows0 (M := ref4 M 3) hp8 hq8 ((ref4_600 M 3 p).trans hF.1) z1 ((ref4_600 M 3 q).trans hF2.1) z2
      rw [if_pos h2, ← e1, ← e2] at en
      exact fin (-3) 3 (by omega) (by decide) (c_agBn ea (by decide)) (x4_ref3 M) (r_noBn en (by decide))
    · rw [if_neg h2] at ea
      by_cases h0 : c = 0 ∨ d = 0
      · rw [if_pos h0, ← e1, ← e2] at ea
        have en := r_noRows0 (M := ref4 M 4) hp8 hq8 ((ref4_600 M 4 p).trans hF.1) z1 ((ref4_600 M 4 q).trans hF2.1) z2
        rw [if_neg h2, if_pos h0, ← e1, ← e2] at en
        exact fin (-4) 4 (by omega) (by decide) (c_agBn ea (by decide)) (x4_ref4 M) (r_noBn en (by decide))
      · rw [if_neg h0] at ea
        obtain ⟨k, m, hW⟩ := hr (by omega)
        obtain ⟨k', n, hW'⟩ := hr2 (by omega)
        obtain ⟨cc, h3⟩ := sR3_of hW
        obtain ⟨dc, h3'⟩ := sR3_of hW'
        have eb := c_agB hp8 hq8 w hD h3 h3' ea
        by_cases hs : m = dn D ∧ n = dn D
        · obtain ⟨hm, hn⟩ := hs
          subst hm
          rw [if_pos ⟨rfl, hn⟩, ← e1, ← e2] at eb
          rw [hn] at h3'
          refine hrow p q cc dc D hp8 hq8 e1 e2 w hD hR h3 h3' eb (fun N n1 n2 => ?_)
          have eN : N = M := Prod.ext n1.symm n2.symm
          subst eN
          have en := r_noRows0 (M := N) hp8 hq8 hF.1 z1 hF2.1 z2
          rw [if_neg h2, if_neg h0] at en
          have eq := r_noB hp8 hq8 w hR h3 h3' en
          rw [if_pos ⟨rfl, rfl⟩, ← e1, ← e2] at eq
          exact eq
        · rw [if_neg hs, ← e1, ← e2] at eb
          have en := r_noRows0 (M := ref4 M 2) hp8 hq8 ((ref4_600 M 2 p).trans hF.1) z1 ((ref4_600 M 2 q).trans hF2.1) z2
          rw [if_neg h2, if_neg h0] at en
          have eq := r_noB hp8 hq8 w (hR.ag (ref4_k M 2) rfl) (h3.ag (ref4_k M 2) rfl) (h3'.ag (ref4_k M 2) rfl) en
          rw [if_neg hs, ← e1, ← e2] at eq
          exact fin (-2) 2 (by omega) (by decide) eb (x4_ref2 M) eq
  · exact fin (-2) 2 (by omega) (by decide) (c_agBn (c_agN hc) (by decide)) (x4_ref2 M) (r_noBn (r_noRowsN hc) (by decide))
theorem k_unlike : ok_unlike GT := by
  intro tr b M x1 x2 h
  refine books_in h (F4 := fun r2 => (if r2 = 0 then if am_inb x1 8 = true then if am_inb x2 8 = true then (f_X4_firstUnlike M x1.toNatClampNeg x2.toNatClampNeg).bind (fun r6 => some (r6, M)) else none else none else (f_X4_refuse M r2).bind (fun r8 => some (r8.1, r8.2)))) (F5 := fun _ r2 => am_let r2.1 (fun v3 => (if v3 = 0 then (f_X5_unlikeAt r2.2 0 x1 x2).bind (fun r5 => some (r5, r2.2)) else some (v3, r2.2)))) (fun v hv _ => if_neg hv) (fun N r hr => if_neg hr) (f_X4_unlike M x1 x2) (fun N => f_X5_unlike N 0 x1 x2) rfl (fun N => rfl) ?_
  intro p q c d D hp hq e1 e2 w hD hR h1 h2 eb eN
  have hn := h1.1
  subst e1
  subst e2
  refine ⟨(enc (fu c d (dn D) 1000 0), M), (enc (fu c d (dn D) 1000 0), M), wp_is ?_, wp_is ?_, rfl, h⟩
  · unfold f_X4_unlike f_X4_firstUnlike
    rw [i_cl (x := p) (by omega), i_cl (x := q) (by omega)]
    exact wp_be eb (wp_pos rfl (wp_inb hp (by omega) (wp_inb hq (by omega) (wp_call (c_unlike2 h1 h2 1000 0 (by omega) (by omega)) (fun y hy => wp_some (by rw [hy]))))))
  · unfold f_X5_unlike f_X5_unlikeAt
    exact wp_be (eN M rfl rfl) (wp_let (wp_pos rfl (wp_call (r_unlike2 hp hq h1 h2 1000 0 (by omega) (by omega)) (fun y hy => wp_some (by rw [hy])))))
/-! rows that agree with what is said -/
def bf (P : Nat → Nat → Bool) (g : Nat → Nat) : Nat → Nat → Nat
  | 0, a => if (P 0 a && a == 0) = true then 1 else 0
  | t + 1, a => if P (t + 1) a = true then (if g t = 0 then 0 else pv (bf P g t) a) + (if g t = 1 then 0 else bf P g t a) else 0
theorem bf_no {P : Nat → Nat → Bool} {g : Nat → Nat} {t a : Nat} (h : P t a = false) : bf P g t a = 0 := by
  cases t with
  | zero => rw [bf, h]; rfl
  | succ t => rw [bf, h]; rfl
theorem bf_gt (P : Nat → Nat → Bool) (g : Nat → Nat) : ∀ {t a : Nat}, t < a → bf P g t a = 0
  | 0, a, h => by
    rw [bf]
    have e : (a == 0) = false := by rw [beq_d, decide_eq_false (by omega)]
    rw [e, Bool.and_false]
    rfl
  | t + 1, a, h => by
    rw [bf, bf_gt P g (show t < a from by omega), pv_congr (v := fun b => if b < a then bf P g t b else 0) (fun b hb => by rw [if_pos hb])]
    have e : pv (fun b => if b < a then bf P g t b else 0) a = 0 := by
      cases a with
      | zero => rfl
      | succ a => rw [pv_s, if_pos (Nat.lt_succ_self a)]; exact bf_gt P g (by omega)
    rw [e, ite_self, ite_self]
    split <;> rfl
def cx (u x s : Nat) : Nat := if s ≤ x then ch u (x - s) else 0
def uk (g : Nat → Nat) (S k : Nat) : Nat := sm (fun i => if g (S + i) = 2 then 1 else 0) k
def sk (g : Nat → Nat) (S k : Nat) : Nat := sm (fun i => if g (S + i) = 1 then 1 else 0) k
theorem us_le (g : Nat → Nat) (S : Nat) : ∀ k : Nat, uk g S k + sk g S k ≤ k
  | 0 => Nat.le_refl _
  | k + 1 => by
    have := us_le g S k
    show uk g S k + (if g (S + k) = 2 then 1 else 0) + (sk g S k + (if g (S + k) = 1 then 1 else 0)) ≤ k + 1
    by_cases h2 : g (S + k) = 2
    · rw [if_pos h2, if_neg (by omega)]; omega
    · rw [if_neg h2]
      split <;> omega
theorem cx_0 {u x s : Nat} (h : u + s < x) : cx u x s = 0 := by
  unfold cx
  split
  · exact ch_gt (by omega)
  · rfl
theorem cx_p (u x s : Nat) : cx (u + 1) (x + 1) s = cx u x s + cx u (x + 1) s := by
  unfold cx
  by_cases h1 : s ≤ x
  · rw [if_pos h1, if_pos (by omega), if_pos (by omega), show x + 1 - s = (x - s) + 1 from by omega, ch_ss]
  · by_cases h2 : s ≤ x + 1
    · rw [if_neg h1, if_pos h2, if_pos h2, show x + 1 - s = 0 from by omega, ch_0, ch_0]
    · rw [if_neg h1, if_neg h2, if_neg h2]
theorem cx_p0 (u s : Nat) : cx (u + 1) 0 s = cx u 0 s := by
  unfold cx
  by_cases h : s ≤ 0
  · rw [if_pos h, if_pos h, Nat.zero_sub, ch_0, ch_0]
  · rw [if_neg h, if_neg h]
theorem cx_s (u x s : Nat) : cx u (x + 1) (s + 1) = cx u x s := by
  unfold cx
  by_cases h : s ≤ x
  · rw [if_pos h, if_pos (by omega), show x + 1 - (s + 1) = x - s from by omega]
  · rw [if_neg h, if_neg (by omega)]
/-- one heap's rows -/
theorem bf_block {A B : Nat → Nat} {g : Nat → Nat} {h j : Nat} (hg : ∀ t, g t ≤ 2) (hj : j < h) : ∀ (k x : Nat), k ≤ A j + B j → x ≤ A j → k ≤ x + B j → bf (PH A B h) g (sm (fun i => A i + B i) j + k) (sm A j + x) = bf (PH A B h) g (sm (fun i => A i + B i) j) (sm A j) * cx (uk g (sm (fun i => A i + B i) j) k) x (sk g (sm (fun i => A i + B i) j) k)
  | 0, x, _, _, _ => by
    show bf (PH A B h) g (sm (fun i => A i + B i) j) (sm A j + x) = _ * cx 0 x 0
    cases x with
    | zero => rw [show cx 0 0 0 = 1 from rfl, Nat.mul_one]; rfl
    | succ x =>
      rw [show cx 0 (x + 1) 0 = 0 from rfl, Nat.mul_zero]
      refine bf_no ?_
      rw [PH_at A B h (by omega), decide_eq_false_iff_not]
      omega
  | k + 1, x, hk, hx, hB => by
    have hP := PH_in A B h hj (show sm (fun i => A i + B i) j < sm (fun i => A i + B i) j + (k + 1) from by omega) (show sm (fun i => A i + B i) j + (k + 1) ≤ sm (fun i => A i + B i) j + (A j + B j) from by omega) (sm A j + x)
    have hu := us_le g (sm (fun i => A i + B i) j) (k + 1)
    by_cases hxk : k + 1 < x
    · rw [bf_no (by rw [hP, decide_eq_false_iff_not]; omega), cx_0 (by omega), Nat.mul_zero]
    · have ih0 := bf_block (A := A) (B := B) (g := g) hg hj k x (by omega) hx (by omega)
      have e1 : pv (bf (PH A B h) g (sm (fun i => A i + B i) j + k)) (sm A j + x) = if x = 0 then 0 else bf (PH A B h) g (sm (fun i => A i + B i) j) (sm A j) * cx (uk g (sm (fun i => A i + B i) j) k) (x - 1) (sk g (sm (fun i => A i + B i) j) k) := by
        cases x with
        | zero =>
          rw [if_pos rfl]
          unfold pv
          split
          · rfl
          · refine bf_no ?_
            by_cases hk0 : k = 0
            · subst hk0
              rw [show sm (fun i => A i + B i) j + 0 = sm (fun i => A i + B i) j from rfl, PH_at A B h (by omega), decide_eq_false_iff_not]
              omega
            · rw [PH_in A B h hj (show sm (fun i => A i + B i) j < sm (fun i => A i + B i) j + k from by omega) (show sm (fun i => A i + B i) j + k ≤ sm (fun i => A i + B i) j + (A j + B j) from by omega), decide_eq_false_iff_not]
              omega
        | succ x =>
          rw [if_neg (by omega), show sm A j + (x + 1) = sm A j + x + 1 from rfl, pv_s, bf_block hg hj k x (by omega) (by omega) (by omega)]
          rfl
      show bf (PH A B h) g (sm (fun i => A i + B i) j + k + 1) (sm A j + x) = _ * cx (uk g (sm (fun i => A i + B i) j) k + (if g (sm (fun i => A i + B i) j + k) = 2 then 1 else 0)) x (sk g (sm (fun i => A i + B i) j) k + (if g (sm (fun i => A i + B i) j + k) = 1 then 1 else 0))
      have hPt : PH A B h (sm (fun i => A i + B i) j + k + 1) (sm A j + x) = true := by
        have : sm (fun i => A i + B i) j + k + 1 = sm (fun i => A i + B i) j + (k + 1) := by omega
        rw [this, hP, decide_eq_true_eq]
        omega
      rw [bf, if_pos hPt, e1, ih0]
      generalize bf (PH A B h) g (sm (fun i => A i + B i) j) (sm A j) = C
      generalize uk g (sm (fun i => A i + B i) j) k = u
      generalize sk g (sm (fun i => A i + B i) j) k = s
      by_cases g0 : g (sm (fun i => A i + B i) j + k) = 0
      · rw [if_pos g0, if_neg (show ¬ g (sm (fun i => A i + B i) j + k) = 1 from by omega), if_neg (show ¬ g (sm (fun i => A i + B i) j + k) = 2 from by omega), if_neg (show ¬ g (sm (fun i => A i + B i) j + k) = 1 from by omega), Nat.zero_add]
        rfl
      · rw [if_neg g0]
        by_cases g1 : g (sm (fun i => A i + B i) j + k) = 1
        · rw [if_pos g1, if_neg (show ¬ g (sm (fun i => A i + B i) j + k) = 2 from by omega), if_pos g1, Nat.add_zero, Nat.add_zero]
          cases x with
          | zero => rw [if_pos rfl, show cx u 0 (s + 1) = 0 from rfl, Nat.mul_zero]
          | succ x => rw [if_neg (by omega), cx_s]; rfl
        · rw [if_neg g1]
          by_cases g2 : g (sm (fun i => A i + B i) j + k) = 2
          · rw [if_pos g2, if_neg g1, Nat.add_zero]
            cases x with
            | zero => rw [if_pos rfl, Nat.zero_add, cx_p0]; rfl
            | succ x => rw [if_neg (by omega), cx_p, Nat.mul_add]; rfl
          · exact absurd (hg (sm (fun i => A i + B i) j + k)) (by omega)
