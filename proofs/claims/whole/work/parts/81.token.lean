/-! the tape's tokens -/
def tk (x : Nat) : Nat := if 97 ≤ x ∧ x ≤ 122 then 1 else if 48 ≤ x ∧ x ≤ 57 then 2 else if x = 59 then 3 else 4
def spa (z : Nat) (c : Nat → Nat) : Nat → Nat → Nat
  | 0, i => i
  | n + 1, i => if i < z ∧ c i = 32 then spa z c n (i + 1) else i
def fr (z : Nat) (c : Nat → Nat) (i : Nat) : Nat := spa z c (z - i) i
theorem fr_eq (z : Nat) (c : Nat → Nat) (i : Nat) : fr z c i = if i < z ∧ c i = 32 then fr z c (i + 1) else i := by
  unfold fr
  by_cases h : i < z
  · rw [show z - i = (z - (i + 1)) + 1 from by omega, spa]
  · rw [show z - i = 0 from by omega, spa, if_neg (fun e => h e.1)]
def rna (z : Nat) (c : Nat → Nat) (k : Nat) : Nat → Nat → Nat
  | 0, i => i
  | n + 1, i => if i < z ∧ tk (c i) = k then rna z c k n (i + 1) else i
def rn (z : Nat) (c : Nat → Nat) (k i : Nat) : Nat := rna z c k (z - i) i
theorem rn_eq (z : Nat) (c : Nat → Nat) (k i : Nat) : rn z c k i = if i < z ∧ tk (c i) = k then rn z c k (i + 1) else i := by
  unfold rn
  by_cases h : i < z
  · rw [show z - i = (z - (i + 1)) + 1 from by omega, rna]
  · rw [show z - i = 0 from by omega, rna, if_neg (fun e => h e.1)]
theorem spa_le {z : Nat} {c : Nat → Nat} : ∀ (n : Nat) {i : Nat}, i ≤ z → i ≤ spa z c n i ∧ spa z c n i ≤ z
  | 0, i, h => ⟨Nat.le_refl _, h⟩
  | n + 1, i, h => by
    rw [spa]
    split
    · next e =>
      have := spa_le (c := c) n (show i + 1 ≤ z from e.1)
      omega
    · exact ⟨Nat.le_refl _, h⟩
theorem fr_le {z : Nat} {c : Nat → Nat} {i : Nat} (h : i ≤ z) : i ≤ fr z c i ∧ fr z c i ≤ z := spa_le _ h
theorem rna_le {z : Nat} {c : Nat → Nat} {k : Nat} : ∀ (n : Nat) {i : Nat}, i ≤ z → i ≤ rna z c k n i ∧ rna z c k n i ≤ z
  | 0, i, h => ⟨Nat.le_refl _, h⟩
  | n + 1, i, h => by
    rw [rna]
    split
    · next e =>
      have := rna_le (c := c) (k := k) n (show i + 1 ≤ z from e.1)
      omega
    · exact ⟨Nat.le_refl _, h⟩
theorem rn_le {z : Nat} {c : Nat → Nat} {k i : Nat} (h : i ≤ z) : i ≤ rn z c k i ∧ rn z c k i ≤ z := rna_le _ h
theorem rna_k {z : Nat} {c : Nat → Nat} {k : Nat} : ∀ (n : Nat) {i : Nat} (j : Nat), i ≤ j → j < rna z c k n i → tk (c j) = k
  | 0, i, j, h1, h2 => absurd h2 (by rw [rna]; omega)
  | n + 1, i, j, h1, h2 => by
    rw [rna] at h2
    split at h2
    · next e =>
      by_cases hj : j = i
      · rw [hj]; exact e.2
      · exact rna_k n j (by omega) h2
    · omega
def kd (z : Nat) (c : Nat → Nat) (f : Nat) : Nat := if f < z then tk (c f) else 0
def te (z : Nat) (c : Nat → Nat) (f : Nat) : Nat := if f < z then (if tk (c f) = 1 ∨ tk (c f) = 2 then rn z c (tk (c f)) (f + 1) else f + 1) else f
theorem te_le {z : Nat} {c : Nat → Nat} {f : Nat} (h : f ≤ z) : f ≤ te z c f ∧ te z c f ≤ z ∧ (f < z → f < te z c f) := by
  unfold te
  by_cases hf : f < z
  · rw [if_pos hf]
    split
    · have := rn_le (c := c) (k := tk (c f)) (show f + 1 ≤ z from hf)
      omega
    · omega
  · rw [if_neg hf]
    omega
theorem te_k {z : Nat} {c : Nat → Nat} {f j : Nat} (h1 : f ≤ j) (h2 : j < te z c f) : tk (c j) = tk (c f) := by
  unfold te at h2
  by_cases hj : j = f
  · rw [hj]
  split at h2
  · next e =>
    split at h2
    · exact rna_k _ j (by omega) h2
    · omega
  · omega
theorem kd_le (z : Nat) (c : Nat → Nat) (f : Nat) : kd z c f ≤ 4 := by
  unfold kd tk
  split
  · split
    · omega
    · split
      · omega
      · split <;> omega
  · omega
theorem kd_lt {z : Nat} {c : Nat → Nat} {f : Nat} (h : kd z c f ≠ 0) : f < z ∧ kd z c f = tk (c f) := by
  unfold kd at h ⊢
  by_cases hf : f < z
  · rw [if_pos hf]; exact ⟨hf, rfl⟩
  · rw [if_neg hf] at h; exact absurd rfl h
theorem kd_0 {z : Nat} {c : Nat → Nat} {f : Nat} : kd z c f = 0 ↔ ¬ f < z := by
  unfold kd tk
  by_cases hf : f < z
  · rw [if_pos hf]
    refine ⟨fun h => ?_, fun h => absurd hf h⟩
    split at h
    · omega
    · split at h
      · omega
      · split at h <;> omega
  · rw [if_neg hf]; exact ⟨fun _ => hf, fun _ => rfl⟩
def fg (c : Nat → Nat) (f i : Nat) : Nat := if i = f then 0 else if i = f + 1 then c f - 48 else if i = f + 2 then (c f - 48) * 10 + (c (f + 1) - 48) else 100000
theorem tk_2 {x : Nat} (h : tk x = 2) : 48 ≤ x ∧ x ≤ 57 := by
  unfold tk at h
  split at h
  · omega
  · split at h
    · next e => exact e
    · split at h <;> omega
theorem c_tok (M : am_M) {x : Nat} (h : x ≤ 255) : f_X3_tokenOf M (Int32.ofNat x) = some (Int32.ofNat (tk x)) := by
  have e : ∀ x, x < 256 → f_X3_tokenOf zM (Int32.ofNat x) = some (Int32.ofNat (tk x)) := by decide +kernel
  exact e x (by omega)
theorem r_let (M : am_M) {x : Nat} (h : x ≤ 255) : f_X5_isLetter M (Int32.ofNat x) = some (bz (decide (tk x = 1))) := by
  have e : ∀ x, x < 256 → f_X5_isLetter zM (Int32.ofNat x) = some (bz (decide (tk x = 1))) := by decide +kernel
  exact e x (by omega)
theorem r_dig (M : am_M) {x : Nat} (h : x ≤ 255) : f_X5_isDigit M (Int32.ofNat x) = some (bz (decide (tk x = 2))) := by
  have e : ∀ x, x < 256 → f_X5_isDigit zM (Int32.ofNat x) = some (bz (decide (tk x = 2))) := by decide +kernel
  exact e x (by omega)
def TPc (M : am_M) (z : Nat) (c : Nat → Nat) : Prop := z ≤ 250 ∧ M.1 3 0 0 0 = Int32.ofNat z ∧ ∀ j, j < z → M.1 402 0 0 j = Int32.ofNat (c j) ∧ c j ≤ 255
def TPr (M : am_M) (z : Nat) (c : Nat → Nat) : Prop := z ≤ 250 ∧ M.1 5 0 0 8 = Int32.ofNat z ∧ ∀ j, j < z → M.1 607 0 0 j = Int32.ofNat (c j) ∧ c j ≤ 255
theorem TPc.mv {M N : am_M} {z : Nat} {c : Nat → Nat} {S : kS} (h : TPc M z c) (hk : keeps S M N) (h0 : kpS S 3 0 0 = false) (h1 : ∀ j, kpS S 402 0 j = false) : TPc N z c := ⟨h.1, (hk.i _ _ _ _ h0).trans h.2.1, fun j hj => ⟨(hk.i _ _ _ _ (h1 j)).trans (h.2.2 j hj).1, (h.2.2 j hj).2⟩⟩
theorem TPr.mv {M N : am_M} {z : Nat} {c : Nat → Nat} {S : kS} (h : TPr M z c) (hk : keeps S M N) (h0 : kpS S 5 0 8 = false) (h1 : ∀ j, kpS S 607 0 j = false) : TPr N z c := ⟨h.1, (hk.i _ _ _ _ h0).trans h.2.1, fun j hj => ⟨(hk.i _ _ _ _ (h1 j)).trans (h.2.2 j hj).1, (h.2.2 j hj).2⟩⟩
def TKc (M : am_M) (z : Nat) (c : Nat → Nat) (f : Nat) : Prop := M.1 3 0 0 1 = Int32.ofNat f ∧ M.1 3 0 0 3 = Int32.ofNat (te z c f) ∧ M.1 3 0 0 4 = Int32.ofNat (kd z c f)
def TKr (M : am_M) (z : Nat) (c : Nat → Nat) (f : Nat) : Prop := M.1 5 0 0 23 = Int32.ofNat f ∧ M.1 5 0 0 21 = Int32.ofNat (te z c f) ∧ M.1 5 0 0 22 = Int32.ofNat (kd z c f) ∧ (kd z c f = 2 → M.1 5 0 0 24 = Int32.ofNat (fg c f (te z c f)))
theorem c_next8 {z : Nat} {c : Nat → Nat} : ∀ (n i : Nat) (M : am_M), TPc M z c → i ≤ z → z + 1 ≤ n + i → M.1 3 0 0 1 = Int32.ofNat i → wp (l_X3_nextToken_8 n M) (fun N => N.1 3 0 0 1 = Int32.ofNat (fr z c i)) := by
  intro n
  induction n with
  | zero => intro i M h1 h2 h3; omega
  | succ n ih =>
    intro i M hT hi hn h0
    have hz := hT.1
    rw [l_X3_nextToken_8, h0, hT.2.1, i_cl (x := i) (by omega), fr_eq]
    refine wp_le (by omega) (by omega) (fun e => wp_some ?_) (fun hlt => ?_)
    · rw [if_neg (by omega)]; exact h0
    rw [(hT.2.2 i hlt).1]
    have := (hT.2.2 i hlt).2
    refine wp_inb (by omega) (by omega) (wp_ieq (y := 32) (by omega) (by omega) (fun e => wp_let ?_) (fun e => wp_some ?_))
    · rw [if_pos ⟨hlt, e⟩, i_s]
      exact ih (i + 1) _ (hT.mv ((keeps.rf [(3, some 0, some 1)] M).si rfl) rfl (fun _ => rfl)) (by omega) (by omega) (by rw [am_si_self])
    · rw [if_neg (fun h => e h.2)]; exact h0
theorem c_next94 {z k : Nat} {c : Nat → Nat} (hk : k = 1 ∨ k = 2) : ∀ (n i : Nat) (M : am_M), TPc M z c → i ≤ z → z + 1 ≤ n + i → M.1 3 0 0 4 = Int32.ofNat k → M.1 3 0 0 3 = Int32.ofNat i → wp (l_X3_nextToken_94 n M) (fun N => N.1 3 0 0 3 = Int32.ofNat (rn z c k i)) := by
  intro n
  induction n with
  | zero => intro i M h1 h2 h3; omega
  | succ n ih =>
    intro i M hT hi hn h4 h0
    have hz := hT.1
    have body : wp (if (M.1 3 0 0 0) ≤ (M.1 3 0 0 3) then some M else if am_inb (M.1 3 0 0 3) 250 = true then (f_X3_tokenOf M (M.1 402 0 0 (M.1 3 0 0 3).toNatClampNeg)).bind (fun r20 => (if r20 = (M.1 3 0 0 4) then am_let (am_si M 3 0 0 3 ((M.1 3 0 0 3) + (1 : Int32))) (fun M21 => l_X3_nextToken_94 n M21) else some M)) else none) (fun N => N.1 3 0 0 3 = Int32.ofNat (rn z c k i)) := by
      rw [h0, hT.2.1, h4, i_cl (x := i) (by omega), rn_eq]
      refine wp_le (by omega) (by omega) (fun e => wp_some ?_) (fun hlt => ?_)
      · rw [if_neg (by omega)]; exact h0
      rw [(hT.2.2 i hlt).1]
      have h5 := (hT.2.2 i hlt).2
      have h6 : tk (c i) ≤ 4 := by
        have := kd_le z c i
        unfold kd at this
        rw [if_pos hlt] at this
        exact this
      refine wp_inb (by omega) (by omega) (wp_be (c_tok M h5) (wp_ieq (by omega) (by omega) (fun e => wp_let ?_) (fun e => wp_some ?_)))
      · rw [if_pos ⟨hlt, e⟩, i_s]
        exact ih (i + 1) _ (hT.mv ((keeps.rf [(3, some 0, some 3)] M).si rfl) rfl (fun _ => rfl)) (by omega) (by omega) ((si_j (by decide)).trans h4) (by rw [am_si_self])
      · rw [if_neg (fun h => e h.2)]; exact h0
    rw [l_X3_nextToken_94]
    rcases hk with e | e
    · subst e
      exact wp_pos h4 body
    · subst e
      exact wp_neg (by rw [h4]; decide) (wp_pos h4 body)
theorem c_next {M : am_M} {z p : Nat} {c : Nat → Nat} (hT : TPc M z c) (h3 : M.1 3 0 0 3 = Int32.ofNat p) (hp : p ≤ z) : wp (f_X3_nextToken M) (fun N => TKc N z c (fr z c p)) := by
  have hz := hT.1
  have hf := fr_le (c := c) hp
  have hl := te_le (c := c) hf.2
  unfold f_X3_nextToken
  refine wp_let ?_
  rw [h3]
  have k1 : keeps [(3, some 0, some 1)] M (am_si M 3 0 0 1 (Int32.ofNat p)) := (keeps.rf _ M).si rfl
  refine wp_call (wp_km (c_next8 1000 p _ (hT.mv k1 rfl (fun _ => rfl)) hp (by omega) (by rw [am_si_self])) (fr_l_X3_nextToken_8 _ _)) (fun N hN => ?_)
  obtain ⟨hN, k2⟩ := hN
  have hT2 := (hT.mv k1 rfl (fun _ => rfl)).mv k2 rfl (fun _ => rfl)
  generalize fr z c p = f at hN hf hl ⊢
  rw [hN, hT2.2.1, i_cl (x := f) (by omega)]
  refine wp_call (Q := fun y => y = Int32.ofNat (kd z c f)) (wp_le (by omega) (by omega) (fun e => wp_some ?_) (fun hlt => ?_)) (fun y hy => ?_)
  · unfold kd
    rw [if_neg (by omega)]
    rfl
  · rw [(hT2.2.2 f hlt).1]
    refine wp_inb (by omega) (by omega) (wp_be (c_tok N (hT2.2.2 f hlt).2) (wp_some ?_))
    unfold kd
    rw [if_pos hlt]
  · subst hy
    refine wp_let (wp_let ?_)
    have e1 : (am_si N 3 0 0 4 (Int32.ofNat (kd z c f))).1 3 0 0 1 = Int32.ofNat f := (si_j (by decide)).trans hN
    have e0 : (am_si N 3 0 0 4 (Int32.ofNat (kd z c f))).1 3 0 0 0 = Int32.ofNat z := (si_j (by decide)).trans hT2.2.1
    rw [e1, e0, i_s]
    have e2 : (if Int32.ofNat (f + 1) < Int32.ofNat z then Int32.ofNat (f + 1) else Int32.ofNat z) = Int32.ofNat (if f < z then f + 1 else z) := by
      by_cases h1 : f + 1 < z
      · rw [if_pos ((i_lt (by omega) (by omega)).2 h1), if_pos (by omega)]
      · rw [if_neg (fun h => h1 ((i_lt (by omega) (by omega)).1 h))]
        by_cases h2 : f < z
        · rw [if_pos h2, show f + 1 = z from by omega]
        · rw [if_neg h2]
    rw [e2]
    generalize hNN : am_si (am_si N 3 0 0 4 (Int32.ofNat (kd z c f))) 3 0 0 3 (Int32.ofNat (if f < z then f + 1 else z)) = N2
    have k3 : keeps [(3, some 0, some 3), (3, some 0, some 4)] N N2 := by rw [← hNN]; exact ((keeps.rf _ N).si rfl).si rfl
    have t1 : N2.1 3 0 0 1 = Int32.ofNat f := (k3.i _ _ _ _ rfl).trans hN
    have t4 : N2.1 3 0 0 4 = Int32.ofNat (kd z c f) := by rw [← hNN, si_j (by decide), am_si_self]
    have t3 : N2.1 3 0 0 3 = Int32.ofNat (if f < z then f + 1 else z) := by rw [← hNN, am_si_self]
    have hT3 := hT2.mv k3 rfl (fun _ => rfl)
    by_cases hk : kd z c f = 1 ∨ kd z c f = 2
    · obtain ⟨hlt, ek⟩ := kd_lt (show kd z c f ≠ 0 from by omega)
      rw [if_pos hlt] at t3
      refine wp_call (wp_km (c_next94 hk 1000 (f + 1) N2 hT3 hlt (by omega) t4 t3) (fr_l_X3_nextToken_94 _ _)) (fun N3 h3 => wp_some ⟨(h3.2.i _ _ _ _ rfl).trans t1, ?_, (h3.2.i _ _ _ _ rfl).trans t4⟩)
      unfold te
      rw [if_pos hlt, ← ek, if_pos hk]
      exact h3.1
    · have hk4 := kd_le z c f
      rw [show (1000 : Nat) = 999 + 1 from rfl, l_X3_nextToken_94, t4]
      refine wp_call (Q := fun y => y = N2) (wp_ieq (y := 1) (by omega) (by omega) (fun e => absurd e (by omega)) (fun _ => wp_ieq (y := 2) (by omega) (by omega) (fun e => absurd e (by omega)) (fun _ => wp_some rfl))) (fun y hy => wp_some ?_)
      subst hy
      refine ⟨t1, ?_, t4⟩
      rw [t3]
      unfold te
      by_cases hlt : f < z
      · have : kd z c f = tk (c f) := by unfold kd; rw [if_pos hlt]
        rw [if_pos hlt, if_pos hlt, ← this, if_neg hk]
      · rw [if_neg hlt, if_neg hlt, show z = f from by omega]
