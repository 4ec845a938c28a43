/-! what a function of the small machine comes to -/
def wp {α : Type} (x : Option α) (Q : α → Prop) : Prop := ∃ y, x = some y ∧ Q y
theorem wp_some {α : Type} {y : α} {Q : α → Prop} (h : Q y) : wp (some y) Q := ⟨y, rfl, h⟩
theorem wp_eq {α : Type} {x : Option α} {y : α} {Q : α → Prop} (h : x = some y) (hq : Q y) : wp x Q := ⟨y, h, hq⟩
theorem wp_bind {α β : Type} {x : Option α} {f : α → Option β} {Q : β → Prop} (h : wp x (fun z => wp (f z) Q)) : wp (x.bind f) Q := by
  obtain ⟨z, rfl, h⟩ := h
  exact h
theorem wp_bs {α β : Type} {y : α} {f : α → Option β} {Q : β → Prop} (h : wp (f y) Q) : wp ((some y).bind f) Q := h
theorem wp_be {α β : Type} {x : Option α} {y : α} {f : α → Option β} {Q : β → Prop} (e : x = some y) (h : wp (f y) Q) : wp (x.bind f) Q := by
  rw [e]
  exact h
theorem wp_let {α β : Type} {a : α} {f : α → Option β} {Q : β → Prop} (h : wp (f a) Q) : wp (am_let a f) Q := h
theorem wp_pos {α : Type} {c : Prop} [Decidable c] {a b : Option α} {Q : α → Prop} (hc : c) (h : wp a Q) : wp (if c then a else b) Q := by
  rw [if_pos hc]
  exact h
theorem wp_neg {α : Type} {c : Prop} [Decidable c] {a b : Option α} {Q : α → Prop} (hc : ¬ c) (h : wp b Q) : wp (if c then a else b) Q := by
  rw [if_neg hc]
  exact h
theorem wp_ite {α : Type} {c : Prop} [Decidable c] {a b : Option α} {Q : α → Prop} (h1 : c → wp a Q) (h2 : ¬ c → wp b Q) : wp (if c then a else b) Q := by
  by_cases hc : c
  · exact wp_pos hc (h1 hc)
  · exact wp_neg hc (h2 hc)
theorem wp_mono {α : Type} {x : Option α} {Q R : α → Prop} (h : wp x Q) (hq : ∀ y, Q y → R y) : wp x R := by
  obtain ⟨y, e, h⟩ := h
  exact ⟨y, e, hq y h⟩
theorem wp_call {α β : Type} {x : Option α} {f : α → Option β} {Q : α → Prop} {R : β → Prop} (h : wp x Q) (hq : ∀ y, Q y → wp (f y) R) : wp (x.bind f) R := wp_bind (wp_mono h hq)
theorem wp_kp {α : Type} {x : Option α} {Q : α → Prop} {S : List (Nat × Option Nat × Option Nat)} {M : am_M} {mem : α → am_M} (h : wp x Q) (hk : kp S M mem x) : wp x (fun y => Q y ∧ keeps S M (mem y)) := by
  obtain ⟨y, e, h⟩ := h
  exact ⟨y, e, h, hk y e⟩
theorem wp_km {x : Option am_M} {Q : am_M → Prop} {S : List (Nat × Option Nat × Option Nat)} {M : am_M} (h : wp x Q) (hk : kp S M id x) : wp x (fun y => Q y ∧ keeps S M y) := wp_kp h hk
/-! numbers -/
theorem i_lt {x y : Nat} (hx : x < 2147483648) (hy : y < 2147483648) : Int32.ofNat x < Int32.ofNat y ↔ x < y := Int32.ofNat_lt_iff_lt hx hy
theorem i_le {x y : Nat} (hx : x < 2147483648) (hy : y < 2147483648) : Int32.ofNat x ≤ Int32.ofNat y ↔ x ≤ y := Int32.ofNat_le_iff_le hx hy
theorem i_cl {x : Nat} (hx : x < 2147483648) : (Int32.ofNat x).toNatClampNeg = x := Int32.toNatClampNeg_ofNat_of_lt hx
theorem i_ti {x : Nat} (hx : x < 2147483648) : (Int32.ofNat x).toInt = x := Int32.toInt_ofNat_of_lt hx
theorem i_eq {x y : Nat} (hx : x < 2147483648) (hy : y < 2147483648) : Int32.ofNat x = Int32.ofNat y ↔ x = y := by
  rw [← Int32.toInt_inj, i_ti hx, i_ti hy]
  omega
theorem i_inb {x n : Nat} (hx : x < n) (hn : n ≤ 2147483648) : am_inb (Int32.ofNat x) n = true := by
  unfold am_inb
  rw [decide_eq_true_eq, i_cl (by omega), show (0 : Int32) = Int32.ofNat 0 from rfl, i_lt (by omega) (by omega)]
  omega
theorem i_add (x y : Nat) : Int32.ofNat x + Int32.ofNat y = Int32.ofNat (x + y) := (Int32.ofNat_add x y).symm
theorem i_mul (x y : Nat) : Int32.ofNat x * Int32.ofNat y = Int32.ofNat (x * y) := (Int32.ofNat_mul x y).symm
theorem i_s (x : Nat) : Int32.ofNat x + 1 = Int32.ofNat (x + 1) := (Int32.ofNat_add x 1).symm
theorem i_sub {x y : Nat} (h : y ≤ x) : Int32.ofNat x - Int32.ofNat y = Int32.ofNat (x - y) := (Int32.ofNat_sub x y h).symm
theorem i_p (x : Nat) : Int32.ofNat (x + 1) + -1 = Int32.ofNat x := by
  rw [← i_s, Int32.add_assoc]
  exact Int32.add_zero _
theorem i_p0 : Int32.ofNat 0 + -1 = -1 := rfl
theorem i_m (x : Nat) : Int32.ofNat (x + 1) - 1 = Int32.ofNat x := by
  rw [show (1 : Int32) = Int32.ofNat 1 from rfl, i_sub (by omega)]
  rfl
theorem i_div {x y : Nat} (hx : x < 2147483648) (hy : y < 2147483648) : Int32.ofNat x / Int32.ofNat y = Int32.ofNat (x / y) := (Int32.ofNat_div hx hy).symm
theorem i_of {a : Int32} (h : 0 ≤ a) : a = Int32.ofNat a.toNatClampNeg := (Int32.ofNat_toNatClampNeg a h).symm
theorem i_0l (x : Nat) (hx : x < 2147483648) : ¬ Int32.ofNat x < 0 := by
  rw [show (0 : Int32) = Int32.ofNat 0 from rfl, i_lt hx (by omega)]
  omega
theorem i_lit (n : Nat) : (Int32.ofNat n) = (OfNat.ofNat n : Int32) := rfl
theorem i_bm {z : Int} (h1 : -2147483648 ≤ z) (h2 : z < 2147483648) : z.bmod (2 ^ 32) = z := by
  rw [Int.bmod_eq_of_le_mul_two] <;> omega
theorem i_tadd {a b : Int32} (h1 : -2147483648 ≤ a.toInt + b.toInt) (h2 : a.toInt + b.toInt < 2147483648) : (a + b).toInt = a.toInt + b.toInt := by
  rw [Int32.toInt_add, i_bm h1 h2]
theorem i_tsub {a b : Int32} (h1 : -2147483648 ≤ a.toInt - b.toInt) (h2 : a.toInt - b.toInt < 2147483648) : (a - b).toInt = a.toInt - b.toInt := by
  rw [Int32.toInt_sub, i_bm h1 h2]
theorem i_tneg {a : Int32} (h1 : -2147483648 < a.toInt) : (-a).toInt = -a.toInt := by
  have h := Int32.toInt_lt a
  have h' := Int32.le_toInt a
  rw [Int32.toInt_neg, i_bm (by omega) (by omega)]
theorem i_fromT {a : Int32} {x : Nat} (h : a.toInt = x) : a = Int32.ofNat x := by
  have h' := Int32.toInt_lt a
  rw [← Int32.toInt_inj, i_ti (by omega), h]
theorem wp_lt {α : Type} {x y : Nat} {a b : Option α} {Q : α → Prop} (hx : x < 2147483648) (hy : y < 2147483648) (h1 : x < y → wp a Q) (h2 : y ≤ x → wp b Q) : wp (if Int32.ofNat x < Int32.ofNat y then a else b) Q :=
  wp_ite (fun h => h1 ((i_lt hx hy).mp h)) (fun h => h2 (Nat.not_lt.mp (fun z => h ((i_lt hx hy).mpr z))))
theorem wp_le {α : Type} {x y : Nat} {a b : Option α} {Q : α → Prop} (hx : x < 2147483648) (hy : y < 2147483648) (h1 : x ≤ y → wp a Q) (h2 : y < x → wp b Q) : wp (if Int32.ofNat x ≤ Int32.ofNat y then a else b) Q :=
  wp_ite (fun h => h1 ((i_le hx hy).mp h)) (fun h => h2 (Nat.not_le.mp (fun z => h ((i_le hx hy).mpr z))))
theorem wp_ieq {α : Type} {x y : Nat} {a b : Option α} {Q : α → Prop} (hx : x < 2147483648) (hy : y < 2147483648) (h1 : x = y → wp a Q) (h2 : x ≠ y → wp b Q) : wp (if Int32.ofNat x = Int32.ofNat y then a else b) Q :=
  wp_ite (fun h => h1 ((i_eq hx hy).mp h)) (fun h => h2 (fun z => h ((i_eq hx hy).mpr z)))
theorem wp_inb {α : Type} {x n : Nat} {a b : Option α} {Q : α → Prop} (hx : x < n) (hn : n ≤ 2147483648) (h : wp a Q) : wp (if am_inb (Int32.ofNat x) n = true then a else b) Q := wp_pos (i_inb hx hn) h
/-! memory -/
theorem si_k {M : am_M} {k o i j k' o' i' j' : Nat} {v : Int32} (h : k' ≠ k) : (am_si M k o i j v).1 k' o' i' j' = M.1 k' o' i' j' := am_si_ne (fun z => h z.1)
theorem si_o {M : am_M} {k o i j k' o' i' j' : Nat} {v : Int32} (h : o' ≠ o) : (am_si M k o i j v).1 k' o' i' j' = M.1 k' o' i' j' := am_si_ne (fun z => h z.2.1)
theorem si_i {M : am_M} {k o i j k' o' i' j' : Nat} {v : Int32} (h : i' ≠ i) : (am_si M k o i j v).1 k' o' i' j' = M.1 k' o' i' j' := am_si_ne (fun z => h z.2.2.1)
theorem si_j {M : am_M} {k o i j k' o' i' j' : Nat} {v : Int32} (h : j' ≠ j) : (am_si M k o i j v).1 k' o' i' j' = M.1 k' o' i' j' := am_si_ne (fun z => h z.2.2.2)
theorem si_e (M : am_M) (k o i j j' : Nat) (v : Int32) : (am_si M k o i j v).1 k o i j' = if j' = j then v else M.1 k o i j' := by
  by_cases h : j' = j
  · rw [h, am_si_self, if_pos rfl]
  · rw [si_j h, if_neg h]
theorem si_l (M : am_M) (k o i j : Nat) (v : Int32) : (am_si M k o i j v).2 = M.2 := rfl
theorem sl_i (M : am_M) (k o i j : Nat) (v : Int64) : (am_sl M k o i j v).1 = M.1 := rfl
theorem sl_k {M : am_M} {k o i j k' o' i' j' : Nat} {v : Int64} (h : k' ≠ k) : (am_sl M k o i j v).2 k' o' i' j' = M.2 k' o' i' j' := am_sl_ne (fun z => h z.1)
theorem sl_r {M : am_M} {k o i j k' o' i' j' : Nat} {v : Int64} (h : i' ≠ i) : (am_sl M k o i j v).2 k' o' i' j' = M.2 k' o' i' j' := am_sl_ne (fun z => h z.2.2.1)
theorem sl_j {M : am_M} {k o i j k' o' i' j' : Nat} {v : Int64} (h : j' ≠ j) : (am_sl M k o i j v).2 k' o' i' j' = M.2 k' o' i' j' := am_sl_ne (fun z => h z.2.2.2)
theorem sl_e (M : am_M) (k o i j j' : Nat) (v : Int64) : (am_sl M k o i j v).2 k o i j' = if j' = j then v else M.2 k o i j' := by
  by_cases h : j' = j
  · rw [h, am_sl_self, if_pos rfl]
  · rw [sl_j h, if_neg h]
theorem ri_k {M : am_M} {k o i k' o' i' j' : Nat} {f : Nat → Int32} (h : k' ≠ k) : (am_ri M k o i f).1 k' o' i' j' = M.1 k' o' i' j' := by
  show (if _ then _ else _) = _
  rw [if_neg (fun z => h z.1)]
theorem ri_e (M : am_M) (k o i j : Nat) (f : Nat → Int32) : (am_ri M k o i f).1 k o i j = f j := by
  show (if _ then _ else _) = _
  rw [if_pos ⟨rfl, rfl, rfl⟩]
theorem keeps.i {S : List (Nat × Option Nat × Option Nat)} {M N : am_M} (h : keeps S M N) (k o i j : Nat) (hk : kpS S k o j = false) : N.1 k o i j = M.1 k o i j := (h k o i j hk).1
theorem keeps.l {S : List (Nat × Option Nat × Option Nat)} {M N : am_M} (h : keeps S M N) (k o i j : Nat) (hk : kpS S k o j = false) : N.2 k o i j = M.2 k o i j := (h k o i j hk).2
/-! bits -/
def bt (x : Int32) (a : Nat) : Bool := x.toBitVec.getLsbD a
theorem bt_and (x y : Int32) (a : Nat) : bt (x &&& y) a = (bt x a && bt y a) := by
  unfold bt
  rw [Int32.toBitVec_and, BitVec.getLsbD_and]
theorem bt_or (x y : Int32) (a : Nat) : bt (x ||| y) a = (bt x a || bt y a) := by
  unfold bt
  rw [Int32.toBitVec_or, BitVec.getLsbD_or]
theorem bt_not (x : Int32) {a : Nat} (ha : a < 32) : bt (x ^^^ (-1)) a = !bt x a := by
  unfold bt
  rw [Int32.toBitVec_xor, BitVec.getLsbD_xor, show (-1 : Int32).toBitVec = BitVec.allOnes 32 from by decide, BitVec.getLsbD_allOnes]
  simp [ha]
theorem bt_0 (a : Nat) : bt 0 a = false := by
  unfold bt
  rw [show (0 : Int32).toBitVec = 0#32 from rfl, BitVec.getLsbD_zero]
theorem bt_am : ∀ a : Nat, a < 32 → ((Int32.ofNat a &&& 31).toBitVec.smod 32#32).toNat = a := by decide +kernel
theorem bt_sh (x : Int32) {a : Nat} (ha : a < 32) : ((x >>> (Int32.ofNat a &&& 31)) &&& 1) = if bt x a = true then 1 else 0 := by
  apply Int32.toBitVec.inj
  rw [Int32.toBitVec_and]
  have e : (x >>> (Int32.ofNat a &&& 31)).toBitVec = x.toBitVec.sshiftRight a := by
    have := bt_am a ha
    show x.toBitVec.sshiftRight ((Int32.ofNat a &&& 31).toBitVec.smod 32#32).toNat = _
    rw [this]
  rw [e]
  apply BitVec.eq_of_getLsbD_eq
  intro i hi
  rw [BitVec.getLsbD_and, BitVec.getLsbD_sshiftRight]
  unfold bt
  rw [show (1 : Int32).toBitVec = 1#32 from rfl, BitVec.getLsbD_one]
  by_cases h0 : i = 0
  · subst h0
    cases hb : x.toBitVec.getLsbD a
    · simp [ha, hb]
    · simp [ha, hb]
  · cases hb : x.toBitVec.getLsbD a
    · simp [h0]
    · simp [h0]
theorem bt_1 (x : Int32) {a : Nat} (ha : a < 32) : ((x >>> (Int32.ofNat a &&& 31)) &&& 1) = 1 ↔ bt x a = true := by
  rw [bt_sh x ha]
  cases bt x a <;> decide
theorem bt_z (x : Int32) {a : Nat} (ha : a < 32) : ((x >>> (Int32.ofNat a &&& 31)) &&& 1) = 0 ↔ bt x a = false := by
  rw [bt_sh x ha]
  cases bt x a <;> decide
theorem bt_a1 (x : Int32) : (x &&& 1) = if bt x 0 = true then 1 else 0 := by
  have h := bt_sh x (a := 0) (by omega)
  have e : x >>> (Int32.ofNat 0 &&& 31) = x := by
    apply Int32.toBitVec.inj
    show x.toBitVec.sshiftRight ((Int32.ofNat 0 &&& 31).toBitVec.smod 32#32).toNat = _
    rw [bt_am 0 (by omega), BitVec.sshiftRight_zero]
  rwa [e] at h
theorem wp_bt1 {α : Type} {x : Int32} {a : Nat} {u v : Option α} {Q : α → Prop} (ha : a < 32) (h1 : bt x a = true → wp u Q) (h2 : bt x a = false → wp v Q) : wp (if ((x >>> (Int32.ofNat a &&& 31)) &&& 1) = 1 then u else v) Q :=
  wp_ite (fun h => h1 ((bt_1 x ha).mp h)) (fun h => h2 (by cases hb : bt x a; rfl; exact absurd ((bt_1 x ha).mpr hb) h))
theorem wp_btz {α : Type} {x : Int32} {a : Nat} {u v : Option α} {Q : α → Prop} (ha : a < 32) (h1 : bt x a = false → wp u Q) (h2 : bt x a = true → wp v Q) : wp (if ((x >>> (Int32.ofNat a &&& 31)) &&& 1) = 0 then u else v) Q :=
  wp_ite (fun h => h1 ((bt_z x ha).mp h)) (fun h => h2 (by cases hb : bt x a; exact absurd ((bt_z x ha).mpr hb) h; rfl))
/-! rows of bits -/
def bb (x y : Int32) : Int32 := (f_X0_bits am_M0 x y).getD 0
theorem f_bits (M : am_M) (x y : Int32) : f_X0_bits M x y = some (bb x y) := by
  unfold bb f_X0_bits
  by_cases h1 : 0 ≤ x <;> by_cases h2 : y ≤ 24 <;> simp only [h1, h2, if_true, if_false, Option.bind_some] <;> split <;> rfl
theorem bb_tab : ∀ p : Nat, p < 25 → ∀ q : Nat, q < 25 → p ≤ q → ∀ a : Nat, a < 25 → bt (((1 : Int32) <<< ((Int32.ofNat q + (1 : Int32)) &&& 31)) - ((1 : Int32) <<< (Int32.ofNat p &&& 31))) a = decide (p ≤ a ∧ a ≤ q) := by decide +kernel
theorem bt_bb (x y : Int32) {a : Nat} (ha : a ≤ 24) : bt (bb x y) a = decide (x.toInt ≤ a ∧ (a : Int) ≤ y.toInt) := by
  have h24 : (24 : Int32).toInt = 24 := by decide
  have h00 : (0 : Int32).toInt = 0 := by decide
  unfold bb f_X0_bits
  have key : ∀ (z1 z5 : Int32), 0 ≤ z1.toInt → z5.toInt ≤ 24 → bt (((if z1 ≤ z5 then some (((1 : Int32) <<< ((z5 + (1 : Int32)) &&& 31)) - ((1 : Int32) <<< (z1 &&& 31))) else some (0 : Int32)) : Option Int32).getD 0) a = decide (z1.toInt ≤ a ∧ (a : Int) ≤ z5.toInt) := by
    intro z1 z5 h1 h5
    by_cases hc : z1 ≤ z5
    · rw [if_pos hc, Option.getD_some]
      rw [Int32.le_iff_toInt_le] at hc
      have e1 : z1 = Int32.ofNat z1.toInt.toNat := i_fromT (by omega)
      have e5 : z5 = Int32.ofNat z5.toInt.toNat := i_fromT (by omega)
      rw [e1, e5, bb_tab _ (by omega) _ (by omega) (by omega) a (by omega), ← e1, ← e5]
      rw [decide_eq_decide]
      omega
    · rw [if_neg hc, Option.getD_some, bt_0]
      rw [Int32.le_iff_toInt_le] at hc
      symm
      rw [decide_eq_false_iff_not]
      omega
  by_cases h1 : 0 ≤ x <;> by_cases h2 : y ≤ 24 <;> simp only [h1, h2, if_true, if_false, Option.bind_some] <;> rw [Int32.le_iff_toInt_le] at h1 h2 <;> rw [key _ _ (by omega) (by omega), decide_eq_decide] <;> omega
