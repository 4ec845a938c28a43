/-! what the printed functions are made of -/
def am_let {α β : Type} (a : α) (f : α → Option β) : Option β := f a
theorem am_letE {α β : Type} {a : α} {f : α → Option β} {r : β} (h : am_let a f = some r) : ∃ x, x = a ∧ f x = some r := ⟨a, rfl, h⟩
theorem am_bnd {α β : Type} {t : Option α} {f : α → Option β} {r : β} (h : t.bind f = some r) : ∃ x, t = some x ∧ f x = some r := by
  cases t with
  | none => cases h
  | some x => exact ⟨x, rfl, h⟩
theorem am_grd {α : Type} {c : Prop} [Decidable c] {t : Option α} {r : α} (h : (if c then t else none) = some r) : c ∧ t = some r := by
  by_cases hc : c
  · rw [if_pos hc] at h
    exact ⟨hc, h⟩
  · rw [if_neg hc] at h
    cases h
theorem am_ifT {α : Type} {c : Prop} [Decidable c] {a b : Option α} {r : α} (hc : c) (h : (if c then a else b) = some r) : a = some r := by rw [if_pos hc] at h; exact h
theorem am_ifF {α : Type} {c : Prop} [Decidable c] {a b : Option α} {r : α} (hc : ¬ c) (h : (if c then a else b) = some r) : b = some r := by rw [if_neg hc] at h; exact h
/-- a place within a row of n -/
def am_inb (x : Int32) (n : Nat) : Bool := decide (¬ (x < 0 ∨ n ≤ x.toNatClampNeg))
theorem am_inbE {x : Int32} {n : Nat} (h : am_inb x n = true) : vp_in x n := by
  have h2 := of_decide_eq_true (p := ¬ (x < 0 ∨ n ≤ x.toNatClampNeg)) h
  exact h2
theorem am_narZ {x : Int32} (h : x = 0 ∨ x = 1) : narrow .boolean (.int x) = .int x := by rcases h with rfl | rfl <;> decide +kernel
theorem am_nrvZ {x : Int32} (h : x = 0 ∨ x = 1) : vp_nar .boolean x = x := by rcases h with rfl | rfl <;> decide +kernel
theorem am_fitZ {x : Int32} (h : x = 0 ∨ x = 1) : fits .boolean (.int x) = true := by rcases h with rfl | rfl <;> decide +kernel
theorem am_neI {x c : Int32} (h : ¬ x = c) : ¬ x.toInt = c.toInt := fun e => h (Int32.toInt_inj.mp e)
def am_pick (ls : List (Nat × am_V)) : List Nat → List (Nat × am_V)
  | [] => []
  | k :: ks => match am_get k ls with
    | some v => (k, v) :: am_pick ls ks
    | none => am_pick ls ks
theorem am_pick_in {ls : List (Nat × am_V)} {q : Nat × am_V} : ∀ {ks : List Nat}, q ∈ am_pick ls ks → q ∈ ls
  | [], h => absurd h List.not_mem_nil
  | k :: ks, h => by
    unfold am_pick at h
    split at h
    · rename_i v hv
      rcases List.mem_cons.mp h with e | e
      · rw [e]; exact am_get_in hv
      · exact am_pick_in e
    · exact am_pick_in h
section AMG
variable {K : am_K} {d : Nat} {mi : am_Mi} {pc : Nat} {ls : List (Nat × am_V)} {st : List am_V} {M : am_M} {post : Option am_V → am_M → Prop}
theorem am_drop {ls' : List (Nat × am_V)} (ks : List Nat) (h : am_pick ls ks = ls') (k : am_W K d mi pc ls' st M post) : am_W K d mi pc ls st M post := am_less (fun q hq => am_pick_in (h ▸ hq)) k
theorem am_mem {M1 : am_M} (h : M1 = M) (k : am_W K d mi pc ls st M1 post) : am_W K d mi pc ls st M post := h ▸ k
theorem am_top {v w : am_V} (h : w = v) (k : am_W K d mi pc ls (w :: st) M post) : am_W K d mi pc ls (v :: st) M post := h ▸ k
theorem am_topI {v w : Int32} (h : w = v) (k : am_W K d mi pc ls (.inl w :: st) M post) : am_W K d mi pc ls (.inl v :: st) M post := h ▸ k
theorem am_topL {v w : Int64} (h : w = v) (k : am_W K d mi pc ls (.inr (.inl w) :: st) M post) : am_W K d mi pc ls (.inr (.inl v) :: st) M post := h ▸ k
theorem am_callVi {idx n ci N : Nat} {k o i : Nat} {f : Nat → am_F} {as sk : List am_V} {mi' : am_Mi} {r : Int32} {M1 : am_M} (hd : decode mi.2.2.1 pc = .ok (.invokevirtual idx, 3)) (hc : am_CV mi.1 idx mi') (hB : am_CB mi' n) (hs : am_sh k = .inl (ci, N, f)) (hci : (vwCl[ci]?).map (fun q => q.1) = some mi'.1) (hk : k < 9000) (hn : as.length = n) (hst : sk = as.reverse ++ .inr (.inr (k, o, i)) :: st) (hw : (st.map am_cat).sum ≤ 8) (hM : am_Met K d mi' (.inr (.inr (k, o, i)) :: as) M (fun q N => q = some (.inl r) ∧ N = M1)) (kk : am_W K (d + 1) mi (pc + 3) ls (.inl r :: st) M1 post) : am_W K (d + 1) mi pc ls sk M post :=
  am_callV hd hc hB hs hci hk hn hst hw hM (fun q N hq => by obtain ⟨rfl, rfl⟩ := hq; exact kk)
theorem am_callVl {idx n ci N : Nat} {k o i : Nat} {f : Nat → am_F} {as sk : List am_V} {mi' : am_Mi} {r : Int64} {M1 : am_M} (hd : decode mi.2.2.1 pc = .ok (.invokevirtual idx, 3)) (hc : am_CV mi.1 idx mi') (hB : am_CB mi' n) (hs : am_sh k = .inl (ci, N, f)) (hci : (vwCl[ci]?).map (fun q => q.1) = some mi'.1) (hk : k < 9000) (hn : as.length = n) (hst : sk = as.reverse ++ .inr (.inr (k, o, i)) :: st) (hw : (st.map am_cat).sum ≤ 8) (hM : am_Met K d mi' (.inr (.inr (k, o, i)) :: as) M (fun q N => q = some (.inr (.inl r)) ∧ N = M1)) (kk : am_W K (d + 1) mi (pc + 3) ls (.inr (.inl r) :: st) M1 post) : am_W K (d + 1) mi pc ls sk M post :=
  am_callV hd hc hB hs hci hk hn hst hw hM (fun q N hq => by obtain ⟨rfl, rfl⟩ := hq; exact kk)
theorem am_callVv {idx n ci N : Nat} {k o i : Nat} {f : Nat → am_F} {as sk : List am_V} {mi' : am_Mi} {M1 : am_M} (hd : decode mi.2.2.1 pc = .ok (.invokevirtual idx, 3)) (hc : am_CV mi.1 idx mi') (hB : am_CB mi' n) (hs : am_sh k = .inl (ci, N, f)) (hci : (vwCl[ci]?).map (fun q => q.1) = some mi'.1) (hk : k < 9000) (hn : as.length = n) (hst : sk = as.reverse ++ .inr (.inr (k, o, i)) :: st) (hw : (st.map am_cat).sum ≤ 8) (hM : am_Met K d mi' (.inr (.inr (k, o, i)) :: as) M (fun q N => q = none ∧ N = M1)) (kk : am_W K (d + 1) mi (pc + 3) ls (st) M1 post) : am_W K (d + 1) mi pc ls sk M post :=
  am_callV hd hc hB hs hci hk hn hst hw hM (fun q N hq => by obtain ⟨rfl, rfl⟩ := hq; exact kk)
theorem am_callSi {idx n : Nat} {as sk : List am_V} {mi' : am_Mi} {r : Int32} {M1 : am_M} (hd : decode mi.2.2.1 pc = .ok (.invokestatic idx, 3)) (hc : am_CS mi.1 idx mi') (hB : am_CB mi' n) (hn : as.length = n) (hst : sk = as.reverse ++ st) (hw : (st.map am_cat).sum ≤ 8) (hM : am_Met K d mi' (as) M (fun q N => q = some (.inl r) ∧ N = M1)) (kk : am_W K (d + 1) mi (pc + 3) ls (.inl r :: st) M1 post) : am_W K (d + 1) mi pc ls sk M post :=
  am_callS hd hc hB hn hst hw hM (fun q N hq => by obtain ⟨rfl, rfl⟩ := hq; exact kk)
theorem am_callSl {idx n : Nat} {as sk : List am_V} {mi' : am_Mi} {r : Int64} {M1 : am_M} (hd : decode mi.2.2.1 pc = .ok (.invokestatic idx, 3)) (hc : am_CS mi.1 idx mi') (hB : am_CB mi' n) (hn : as.length = n) (hst : sk = as.reverse ++ st) (hw : (st.map am_cat).sum ≤ 8) (hM : am_Met K d mi' (as) M (fun q N => q = some (.inr (.inl r)) ∧ N = M1)) (kk : am_W K (d + 1) mi (pc + 3) ls (.inr (.inl r) :: st) M1 post) : am_W K (d + 1) mi pc ls sk M post :=
  am_callS hd hc hB hn hst hw hM (fun q N hq => by obtain ⟨rfl, rfl⟩ := hq; exact kk)
theorem am_callSv {idx n : Nat} {as sk : List am_V} {mi' : am_Mi} {M1 : am_M} (hd : decode mi.2.2.1 pc = .ok (.invokestatic idx, 3)) (hc : am_CS mi.1 idx mi') (hB : am_CB mi' n) (hn : as.length = n) (hst : sk = as.reverse ++ st) (hw : (st.map am_cat).sum ≤ 8) (hM : am_Met K d mi' (as) M (fun q N => q = none ∧ N = M1)) (kk : am_W K (d + 1) mi (pc + 3) ls (st) M1 post) : am_W K (d + 1) mi pc ls sk M post :=
  am_callS hd hc hB hn hst hw hM (fun q N hq => by obtain ⟨rfl, rfl⟩ := hq; exact kk)
theorem am_callNi {idx n : Nat} {host : String} {as sk : List am_V} {mi' : am_Mi} {r : Int32} {M1 : am_M} (hd : decode mi.2.2.1 pc = .ok (.invokestatic idx, 3)) (hc : ∀ U, am_X K U → va_Nw (.methodLinkNest mi.1 idx mi'.2.1 host) U) (hc2 : Cond.static mi'.2.1 ∈ am_T) (hB : am_CB mi' n) (hn : as.length = n) (hst : sk = as.reverse ++ st) (hw : (st.map am_cat).sum ≤ 8) (hM : am_Met K d mi' (as) M (fun q N => q = some (.inl r) ∧ N = M1)) (kk : am_W K (d + 1) mi (pc + 3) ls (.inl r :: st) M1 post) : am_W K (d + 1) mi pc ls sk M post :=
  am_callN hd hc hc2 hB hn hst hw hM (fun q N hq => by obtain ⟨rfl, rfl⟩ := hq; exact kk)
theorem am_callNl {idx n : Nat} {host : String} {as sk : List am_V} {mi' : am_Mi} {r : Int64} {M1 : am_M} (hd : decode mi.2.2.1 pc = .ok (.invokestatic idx, 3)) (hc : ∀ U, am_X K U → va_Nw (.methodLinkNest mi.1 idx mi'.2.1 host) U) (hc2 : Cond.static mi'.2.1 ∈ am_T) (hB : am_CB mi' n) (hn : as.length = n) (hst : sk = as.reverse ++ st) (hw : (st.map am_cat).sum ≤ 8) (hM : am_Met K d mi' (as) M (fun q N => q = some (.inr (.inl r)) ∧ N = M1)) (kk : am_W K (d + 1) mi (pc + 3) ls (.inr (.inl r) :: st) M1 post) : am_W K (d + 1) mi pc ls sk M post :=
  am_callN hd hc hc2 hB hn hst hw hM (fun q N hq => by obtain ⟨rfl, rfl⟩ := hq; exact kk)
theorem am_callNv {idx n : Nat} {host : String} {as sk : List am_V} {mi' : am_Mi} {M1 : am_M} (hd : decode mi.2.2.1 pc = .ok (.invokestatic idx, 3)) (hc : ∀ U, am_X K U → va_Nw (.methodLinkNest mi.1 idx mi'.2.1 host) U) (hc2 : Cond.static mi'.2.1 ∈ am_T) (hB : am_CB mi' n) (hn : as.length = n) (hst : sk = as.reverse ++ st) (hw : (st.map am_cat).sum ≤ 8) (hM : am_Met K d mi' (as) M (fun q N => q = none ∧ N = M1)) (kk : am_W K (d + 1) mi (pc + 3) ls (st) M1 post) : am_W K (d + 1) mi pc ls sk M post :=
  am_callN hd hc hc2 hB hn hst hw hM (fun q N hq => by obtain ⟨rfl, rfl⟩ := hq; exact kk)
theorem am_callTi {idx n k : Nat} {as sk : List am_V} {mi' : am_Mi} {r : Int32} {M1 : am_M} (hd : decode mi.2.2.1 pc = .ok (.invokevirtual idx, 3)) (hc : am_CV mi.1 idx mi') (hB : am_CB mi' n) (hk : k < 4) (hci : mi'.1 = "java/lang/String") (hn : as.length = n) (hst : sk = as.reverse ++ .inr (.inr (9100, k, 0)) :: st) (hw : (st.map am_cat).sum ≤ 8) (hM : am_Met K d mi' (.inr (.inr (9100, k, 0)) :: as) M (fun q N => q = some (.inl r) ∧ N = M1)) (kk : am_W K (d + 1) mi (pc + 3) ls (.inl r :: st) M1 post) : am_W K (d + 1) mi pc ls sk M post :=
  am_callT hd hc hB hk hci hn hst hw hM (fun q N hq => by obtain ⟨rfl, rfl⟩ := hq; exact kk)
theorem am_callTl {idx n k : Nat} {as sk : List am_V} {mi' : am_Mi} {r : Int64} {M1 : am_M} (hd : decode mi.2.2.1 pc = .ok (.invokevirtual idx, 3)) (hc : am_CV mi.1 idx mi') (hB : am_CB mi' n) (hk : k < 4) (hci : mi'.1 = "java/lang/String") (hn : as.length = n) (hst : sk = as.reverse ++ .inr (.inr (9100, k, 0)) :: st) (hw : (st.map am_cat).sum ≤ 8) (hM : am_Met K d mi' (.inr (.inr (9100, k, 0)) :: as) M (fun q N => q = some (.inr (.inl r)) ∧ N = M1)) (kk : am_W K (d + 1) mi (pc + 3) ls (.inr (.inl r) :: st) M1 post) : am_W K (d + 1) mi pc ls sk M post :=
  am_callT hd hc hB hk hci hn hst hw hM (fun q N hq => by obtain ⟨rfl, rfl⟩ := hq; exact kk)
theorem am_callTv {idx n k : Nat} {as sk : List am_V} {mi' : am_Mi} {M1 : am_M} (hd : decode mi.2.2.1 pc = .ok (.invokevirtual idx, 3)) (hc : am_CV mi.1 idx mi') (hB : am_CB mi' n) (hk : k < 4) (hci : mi'.1 = "java/lang/String") (hn : as.length = n) (hst : sk = as.reverse ++ .inr (.inr (9100, k, 0)) :: st) (hw : (st.map am_cat).sum ≤ 8) (hM : am_Met K d mi' (.inr (.inr (9100, k, 0)) :: as) M (fun q N => q = none ∧ N = M1)) (kk : am_W K (d + 1) mi (pc + 3) ls (st) M1 post) : am_W K (d + 1) mi pc ls sk M post :=
  am_callT hd hc hB hk hci hn hst hw hM (fun q N hq => by obtain ⟨rfl, rfl⟩ := hq; exact kk)
end AMG
theorem hk_0 : 0 < 9000 := by decide
theorem hk_1 : 1 < 9000 := by decide
theorem hk_2 : 2 < 9000 := by decide
theorem hk_3 : 3 < 9000 := by decide
theorem hk_4 : 4 < 9000 := by decide
theorem hk_5 : 5 < 9000 := by decide
theorem hk_102 : 102 < 9000 := by decide
theorem hk_103 : 103 < 9000 := by decide
theorem hk_104 : 104 < 9000 := by decide
theorem hk_105 : 105 < 9000 := by decide
theorem hk_106 : 106 < 9000 := by decide
theorem hk_107 : 107 < 9000 := by decide
theorem hk_203 : 203 < 9000 := by decide
theorem hk_204 : 204 < 9000 := by decide
theorem hk_205 : 205 < 9000 := by decide
theorem hk_208 : 208 < 9000 := by decide
theorem hk_210 : 210 < 9000 := by decide
theorem hk_211 : 211 < 9000 := by decide
theorem hk_212 : 212 < 9000 := by decide
theorem hk_303 : 303 < 9000 := by decide
theorem hk_402 : 402 < 9000 := by decide
theorem hk_505 : 505 < 9000 := by decide
theorem hk_506 : 506 < 9000 := by decide
theorem hk_507 : 507 < 9000 := by decide
theorem hk_600 : 600 < 9000 := by decide
theorem hk_601 : 601 < 9000 := by decide
theorem hk_602 : 602 < 9000 := by decide
theorem hk_603 : 603 < 9000 := by decide
theorem hk_604 : 604 < 9000 := by decide
theorem hk_605 : 605 < 9000 := by decide
theorem hk_606 : 606 < 9000 := by decide
theorem hk_607 : 607 < 9000 := by decide
theorem hk_609 : 609 < 9000 := by decide
theorem hk_611 : 611 < 9000 := by decide
theorem hk_612 : 612 < 9000 := by decide
theorem hk_613 : 613 < 9000 := by decide
theorem hk_615 : 615 < 9000 := by decide
theorem hk_617 : 617 < 9000 := by decide
theorem hk_626 : 626 < 9000 := by decide
theorem hk_628 : 628 < 9000 := by decide
theorem hk_630 : 630 < 9000 := by decide
theorem hk_631 : 631 < 9000 := by decide
theorem hk_632 : 632 < 9000 := by decide
theorem hk_633 : 633 < 9000 := by decide
theorem hk_634 : 634 < 9000 := by decide
theorem hk_635 : 635 < 9000 := by decide
theorem hk_636 : 636 < 9000 := by decide
theorem hk_637 : 637 < 9000 := by decide
theorem hk_703 : 703 < 9000 := by decide
theorem hk_715 : 715 < 9000 := by decide
theorem hk_728 : 728 < 9000 := by decide
theorem hk_730 : 730 < 9000 := by decide
theorem hk_731 : 731 < 9000 := by decide
theorem hk_732 : 732 < 9000 := by decide
theorem hk_733 : 733 < 9000 := by decide
theorem hk_735 : 735 < 9000 := by decide
theorem on_3 : Int32.ofNat 3 = 3 := by decide +kernel
theorem on_4 : Int32.ofNat 4 = 4 := by decide +kernel
theorem on_5 : Int32.ofNat 5 = 5 := by decide +kernel
theorem on_7 : Int32.ofNat 7 = 7 := by decide +kernel
theorem on_8 : Int32.ofNat 8 = 8 := by decide +kernel
theorem on_24 : Int32.ofNat 24 = 24 := by decide +kernel
theorem on_25 : Int32.ofNat 25 = 25 := by decide +kernel
theorem on_40 : Int32.ofNat 40 = 40 := by decide +kernel
theorem on_250 : Int32.ofNat 250 = 250 := by decide +kernel
theorem on_625 : Int32.ofNat 625 = 625 := by decide +kernel
theorem ic_m1 : Int32.ofInt (-1) = -1 := by decide +kernel
theorem ic_0 : Int32.ofInt (0) = 0 := by decide +kernel
theorem ic_1 : Int32.ofInt (1) = 1 := by decide +kernel
theorem ic_2 : Int32.ofInt (2) = 2 := by decide +kernel
theorem ic_3 : Int32.ofInt (3) = 3 := by decide +kernel
theorem ic_4 : Int32.ofInt (4) = 4 := by decide +kernel
theorem ic_5 : Int32.ofInt (5) = 5 := by decide +kernel
theorem bp_m128 : (Int8.ofInt (-128)).toInt32 = -128 := by decide +kernel
theorem bp_m127 : (Int8.ofInt (-127)).toInt32 = -127 := by decide +kernel
theorem bp_m126 : (Int8.ofInt (-126)).toInt32 = -126 := by decide +kernel
theorem bp_m125 : (Int8.ofInt (-125)).toInt32 = -125 := by decide +kernel
theorem bp_m124 : (Int8.ofInt (-124)).toInt32 = -124 := by decide +kernel
theorem bp_m123 : (Int8.ofInt (-123)).toInt32 = -123 := by decide +kernel
theorem bp_m122 : (Int8.ofInt (-122)).toInt32 = -122 := by decide +kernel
theorem bp_m121 : (Int8.ofInt (-121)).toInt32 = -121 := by decide +kernel
theorem bp_m120 : (Int8.ofInt (-120)).toInt32 = -120 := by decide +kernel
theorem bp_m119 : (Int8.ofInt (-119)).toInt32 = -119 := by decide +kernel
theorem bp_m118 : (Int8.ofInt (-118)).toInt32 = -118 := by decide +kernel
theorem bp_m117 : (Int8.ofInt (-117)).toInt32 = -117 := by decide +kernel
theorem bp_m116 : (Int8.ofInt (-116)).toInt32 = -116 := by decide +kernel
theorem bp_m115 : (Int8.ofInt (-115)).toInt32 = -115 := by decide +kernel
theorem bp_m114 : (Int8.ofInt (-114)).toInt32 = -114 := by decide +kernel
theorem bp_m113 : (Int8.ofInt (-113)).toInt32 = -113 := by decide +kernel
theorem bp_m112 : (Int8.ofInt (-112)).toInt32 = -112 := by decide +kernel
theorem bp_m111 : (Int8.ofInt (-111)).toInt32 = -111 := by decide +kernel
theorem bp_m110 : (Int8.ofInt (-110)).toInt32 = -110 := by decide +kernel
theorem bp_m109 : (Int8.ofInt (-109)).toInt32 = -109 := by decide +kernel
theorem bp_m108 : (Int8.ofInt (-108)).toInt32 = -108 := by decide +kernel
theorem bp_m107 : (Int8.ofInt (-107)).toInt32 = -107 := by decide +kernel
theorem bp_m106 : (Int8.ofInt (-106)).toInt32 = -106 := by decide +kernel
theorem bp_m105 : (Int8.ofInt (-105)).toInt32 = -105 := by decide +kernel
theorem bp_m104 : (Int8.ofInt (-104)).toInt32 = -104 := by decide +kernel
theorem bp_m103 : (Int8.ofInt (-103)).toInt32 = -103 := by decide +kernel
theorem bp_m102 : (Int8.ofInt (-102)).toInt32 = -102 := by decide +kernel
theorem bp_m101 : (Int8.ofInt (-101)).toInt32 = -101 := by decide +kernel
theorem bp_m100 : (Int8.ofInt (-100)).toInt32 = -100 := by decide +kernel
theorem bp_m99 : (Int8.ofInt (-99)).toInt32 = -99 := by decide +kernel
theorem bp_m98 : (Int8.ofInt (-98)).toInt32 = -98 := by decide +kernel
theorem bp_m97 : (Int8.ofInt (-97)).toInt32 = -97 := by decide +kernel
theorem bp_m96 : (Int8.ofInt (-96)).toInt32 = -96 := by decide +kernel
theorem bp_m95 : (Int8.ofInt (-95)).toInt32 = -95 := by decide +kernel
theorem bp_m94 : (Int8.ofInt (-94)).toInt32 = -94 := by decide +kernel
theorem bp_m93 : (Int8.ofInt (-93)).toInt32 = -93 := by decide +kernel
theorem bp_m92 : (Int8.ofInt (-92)).toInt32 = -92 := by decide +kernel
theorem bp_m91 : (Int8.ofInt (-91)).toInt32 = -91 := by decide +kernel
theorem bp_m90 : (Int8.ofInt (-90)).toInt32 = -90 := by decide +kernel
theorem bp_m89 : (Int8.ofInt (-89)).toInt32 = -89 := by decide +kernel
theorem bp_m88 : (Int8.ofInt (-88)).toInt32 = -88 := by decide +kernel
theorem bp_m87 : (Int8.ofInt (-87)).toInt32 = -87 := by decide +kernel
theorem bp_m86 : (Int8.ofInt (-86)).toInt32 = -86 := by decide +kernel
theorem bp_m85 : (Int8.ofInt (-85)).toInt32 = -85 := by decide +kernel
theorem bp_m84 : (Int8.ofInt (-84)).toInt32 = -84 := by decide +kernel
theorem bp_m83 : (Int8.ofInt (-83)).toInt32 = -83 := by decide +kernel
theorem bp_m82 : (Int8.ofInt (-82)).toInt32 = -82 := by decide +kernel
theorem bp_m81 : (Int8.ofInt (-81)).toInt32 = -81 := by decide +kernel
theorem bp_m80 : (Int8.ofInt (-80)).toInt32 = -80 := by decide +kernel
theorem bp_m79 : (Int8.ofInt (-79)).toInt32 = -79 := by decide +kernel
theorem bp_m78 : (Int8.ofInt (-78)).toInt32 = -78 := by decide +kernel
theorem bp_m77 : (Int8.ofInt (-77)).toInt32 = -77 := by decide +kernel
theorem bp_m76 : (Int8.ofInt (-76)).toInt32 = -76 := by decide +kernel
theorem bp_m75 : (Int8.ofInt (-75)).toInt32 = -75 := by decide +kernel
theorem bp_m74 : (Int8.ofInt (-74)).toInt32 = -74 := by decide +kernel
theorem bp_m73 : (Int8.ofInt (-73)).toInt32 = -73 := by decide +kernel
theorem bp_m72 : (Int8.ofInt (-72)).toInt32 = -72 := by decide +kernel
theorem bp_m71 : (Int8.ofInt (-71)).toInt32 = -71 := by decide +kernel
theorem bp_m70 : (Int8.ofInt (-70)).toInt32 = -70 := by decide +kernel
theorem bp_m69 : (Int8.ofInt (-69)).toInt32 = -69 := by decide +kernel
theorem bp_m68 : (Int8.ofInt (-68)).toInt32 = -68 := by decide +kernel
theorem bp_m67 : (Int8.ofInt (-67)).toInt32 = -67 := by decide +kernel
theorem bp_m66 : (Int8.ofInt (-66)).toInt32 = -66 := by decide +kernel
theorem bp_m65 : (Int8.ofInt (-65)).toInt32 = -65 := by decide +kernel
theorem bp_m64 : (Int8.ofInt (-64)).toInt32 = -64 := by decide +kernel
theorem bp_m63 : (Int8.ofInt (-63)).toInt32 = -63 := by decide +kernel
theorem bp_m62 : (Int8.ofInt (-62)).toInt32 = -62 := by decide +kernel
theorem bp_m61 : (Int8.ofInt (-61)).toInt32 = -61 := by decide +kernel
theorem bp_m60 : (Int8.ofInt (-60)).toInt32 = -60 := by decide +kernel
theorem bp_m59 : (Int8.ofInt (-59)).toInt32 = -59 := by decide +kernel
theorem bp_m58 : (Int8.ofInt (-58)).toInt32 = -58 := by decide +kernel
theorem bp_m57 : (Int8.ofInt (-57)).toInt32 = -57 := by decide +kernel
theorem bp_m56 : (Int8.ofInt (-56)).toInt32 = -56 := by decide +kernel
theorem bp_m55 : (Int8.ofInt (-55)).toInt32 = -55 := by decide +kernel
theorem bp_m54 : (Int8.ofInt (-54)).toInt32 = -54 := by decide +kernel
theorem bp_m53 : (Int8.ofInt (-53)).toInt32 = -53 := by decide +kernel
theorem bp_m52 : (Int8.ofInt (-52)).toInt32 = -52 := by decide +kernel
theorem bp_m51 : (Int8.ofInt (-51)).toInt32 = -51 := by decide +kernel
theorem bp_m50 : (Int8.ofInt (-50)).toInt32 = -50 := by decide +kernel
theorem bp_m49 : (Int8.ofInt (-49)).toInt32 = -49 := by decide +kernel
theorem bp_m48 : (Int8.ofInt (-48)).toInt32 = -48 := by decide +kernel
theorem bp_m47 : (Int8.ofInt (-47)).toInt32 = -47 := by decide +kernel
theorem bp_m46 : (Int8.ofInt (-46)).toInt32 = -46 := by decide +kernel
theorem bp_m45 : (Int8.ofInt (-45)).toInt32 = -45 := by decide +kernel
theorem bp_m44 : (Int8.ofInt (-44)).toInt32 = -44 := by decide +kernel
theorem bp_m43 : (Int8.ofInt (-43)).toInt32 = -43 := by decide +kernel
theorem bp_m42 : (Int8.ofInt (-42)).toInt32 = -42 := by decide +kernel
theorem bp_m41 : (Int8.ofInt (-41)).toInt32 = -41 := by decide +kernel
theorem bp_m40 : (Int8.ofInt (-40)).toInt32 = -40 := by decide +kernel
theorem bp_m39 : (Int8.ofInt (-39)).toInt32 = -39 := by decide +kernel
theorem bp_m38 : (Int8.ofInt (-38)).toInt32 = -38 := by decide +kernel
theorem bp_m37 : (Int8.ofInt (-37)).toInt32 = -37 := by decide +kernel
theorem bp_m36 : (Int8.ofInt (-36)).toInt32 = -36 := by decide +kernel
theorem bp_m35 : (Int8.ofInt (-35)).toInt32 = -35 := by decide +kernel
theorem bp_m34 : (Int8.ofInt (-34)).toInt32 = -34 := by decide +kernel
theorem bp_m33 : (Int8.ofInt (-33)).toInt32 = -33 := by decide +kernel
theorem bp_m32 : (Int8.ofInt (-32)).toInt32 = -32 := by decide +kernel
theorem bp_m31 : (Int8.ofInt (-31)).toInt32 = -31 := by decide +kernel
theorem bp_m30 : (Int8.ofInt (-30)).toInt32 = -30 := by decide +kernel
theorem bp_m29 : (Int8.ofInt (-29)).toInt32 = -29 := by decide +kernel
theorem bp_m28 : (Int8.ofInt (-28)).toInt32 = -28 := by decide +kernel
theorem bp_m27 : (Int8.ofInt (-27)).toInt32 = -27 := by decide +kernel
theorem bp_m26 : (Int8.ofInt (-26)).toInt32 = -26 := by decide +kernel
theorem bp_m25 : (Int8.ofInt (-25)).toInt32 = -25 := by decide +kernel
theorem bp_m24 : (Int8.ofInt (-24)).toInt32 = -24 := by decide +kernel
theorem bp_m23 : (Int8.ofInt (-23)).toInt32 = -23 := by decide +kernel
theorem bp_m22 : (Int8.ofInt (-22)).toInt32 = -22 := by decide +kernel
theorem bp_m21 : (Int8.ofInt (-21)).toInt32 = -21 := by decide +kernel
theorem bp_m20 : (Int8.ofInt (-20)).toInt32 = -20 := by decide +kernel
theorem bp_m19 : (Int8.ofInt (-19)).toInt32 = -19 := by decide +kernel
theorem bp_m18 : (Int8.ofInt (-18)).toInt32 = -18 := by decide +kernel
theorem bp_m17 : (Int8.ofInt (-17)).toInt32 = -17 := by decide +kernel
theorem bp_m16 : (Int8.ofInt (-16)).toInt32 = -16 := by decide +kernel
theorem bp_m15 : (Int8.ofInt (-15)).toInt32 = -15 := by decide +kernel
theorem bp_m14 : (Int8.ofInt (-14)).toInt32 = -14 := by decide +kernel
theorem bp_m13 : (Int8.ofInt (-13)).toInt32 = -13 := by decide +kernel
theorem bp_m12 : (Int8.ofInt (-12)).toInt32 = -12 := by decide +kernel
theorem bp_m11 : (Int8.ofInt (-11)).toInt32 = -11 := by decide +kernel
theorem bp_m10 : (Int8.ofInt (-10)).toInt32 = -10 := by decide +kernel
theorem bp_m9 : (Int8.ofInt (-9)).toInt32 = -9 := by decide +kernel
theorem bp_m8 : (Int8.ofInt (-8)).toInt32 = -8 := by decide +kernel
theorem bp_m7 : (Int8.ofInt (-7)).toInt32 = -7 := by decide +kernel
theorem bp_m6 : (Int8.ofInt (-6)).toInt32 = -6 := by decide +kernel
theorem bp_m5 : (Int8.ofInt (-5)).toInt32 = -5 := by decide +kernel
theorem bp_m4 : (Int8.ofInt (-4)).toInt32 = -4 := by decide +kernel
theorem bp_m3 : (Int8.ofInt (-3)).toInt32 = -3 := by decide +kernel
theorem bp_m2 : (Int8.ofInt (-2)).toInt32 = -2 := by decide +kernel
theorem bp_m1 : (Int8.ofInt (-1)).toInt32 = -1 := by decide +kernel
theorem bp_0 : (Int8.ofInt (0)).toInt32 = 0 := by decide +kernel
theorem bp_1 : (Int8.ofInt (1)).toInt32 = 1 := by decide +kernel
theorem bp_2 : (Int8.ofInt (2)).toInt32 = 2 := by decide +kernel
theorem bp_3 : (Int8.ofInt (3)).toInt32 = 3 := by decide +kernel
theorem bp_4 : (Int8.ofInt (4)).toInt32 = 4 := by decide +kernel
theorem bp_5 : (Int8.ofInt (5)).toInt32 = 5 := by decide +kernel
theorem bp_6 : (Int8.ofInt (6)).toInt32 = 6 := by decide +kernel
theorem bp_7 : (Int8.ofInt (7)).toInt32 = 7 := by decide +kernel
theorem bp_8 : (Int8.ofInt (8)).toInt32 = 8 := by decide +kernel
theorem bp_9 : (Int8.ofInt (9)).toInt32 = 9 := by decide +kernel
theorem bp_10 : (Int8.ofInt (10)).toInt32 = 10 := by decide +kernel
theorem bp_11 : (Int8.ofInt (11)).toInt32 = 11 := by decide +kernel
theorem bp_12 : (Int8.ofInt (12)).toInt32 = 12 := by decide +kernel
theorem bp_13 : (Int8.ofInt (13)).toInt32 = 13 := by decide +kernel
theorem bp_14 : (Int8.ofInt (14)).toInt32 = 14 := by decide +kernel
theorem bp_15 : (Int8.ofInt (15)).toInt32 = 15 := by decide +kernel
theorem bp_16 : (Int8.ofInt (16)).toInt32 = 16 := by decide +kernel
theorem bp_17 : (Int8.ofInt (17)).toInt32 = 17 := by decide +kernel
theorem bp_18 : (Int8.ofInt (18)).toInt32 = 18 := by decide +kernel
theorem bp_19 : (Int8.ofInt (19)).toInt32 = 19 := by decide +kernel
theorem bp_20 : (Int8.ofInt (20)).toInt32 = 20 := by decide +kernel
theorem bp_21 : (Int8.ofInt (21)).toInt32 = 21 := by decide +kernel
theorem bp_22 : (Int8.ofInt (22)).toInt32 = 22 := by decide +kernel
theorem bp_23 : (Int8.ofInt (23)).toInt32 = 23 := by decide +kernel
theorem bp_24 : (Int8.ofInt (24)).toInt32 = 24 := by decide +kernel
theorem bp_25 : (Int8.ofInt (25)).toInt32 = 25 := by decide +kernel
theorem bp_26 : (Int8.ofInt (26)).toInt32 = 26 := by decide +kernel
theorem bp_27 : (Int8.ofInt (27)).toInt32 = 27 := by decide +kernel
theorem bp_28 : (Int8.ofInt (28)).toInt32 = 28 := by decide +kernel
theorem bp_29 : (Int8.ofInt (29)).toInt32 = 29 := by decide +kernel
theorem bp_30 : (Int8.ofInt (30)).toInt32 = 30 := by decide +kernel
theorem bp_31 : (Int8.ofInt (31)).toInt32 = 31 := by decide +kernel
theorem bp_32 : (Int8.ofInt (32)).toInt32 = 32 := by decide +kernel
theorem bp_33 : (Int8.ofInt (33)).toInt32 = 33 := by decide +kernel
theorem bp_34 : (Int8.ofInt (34)).toInt32 = 34 := by decide +kernel
theorem bp_35 : (Int8.ofInt (35)).toInt32 = 35 := by decide +kernel
theorem bp_36 : (Int8.ofInt (36)).toInt32 = 36 := by decide +kernel
theorem bp_37 : (Int8.ofInt (37)).toInt32 = 37 := by decide +kernel
theorem bp_38 : (Int8.ofInt (38)).toInt32 = 38 := by decide +kernel
theorem bp_39 : (Int8.ofInt (39)).toInt32 = 39 := by decide +kernel
theorem bp_40 : (Int8.ofInt (40)).toInt32 = 40 := by decide +kernel
theorem bp_41 : (Int8.ofInt (41)).toInt32 = 41 := by decide +kernel
theorem bp_42 : (Int8.ofInt (42)).toInt32 = 42 := by decide +kernel
theorem bp_43 : (Int8.ofInt (43)).toInt32 = 43 := by decide +kernel
theorem bp_44 : (Int8.ofInt (44)).toInt32 = 44 := by decide +kernel
theorem bp_45 : (Int8.ofInt (45)).toInt32 = 45 := by decide +kernel
theorem bp_46 : (Int8.ofInt (46)).toInt32 = 46 := by decide +kernel
theorem bp_47 : (Int8.ofInt (47)).toInt32 = 47 := by decide +kernel
theorem bp_48 : (Int8.ofInt (48)).toInt32 = 48 := by decide +kernel
theorem bp_49 : (Int8.ofInt (49)).toInt32 = 49 := by decide +kernel
theorem bp_50 : (Int8.ofInt (50)).toInt32 = 50 := by decide +kernel
theorem bp_51 : (Int8.ofInt (51)).toInt32 = 51 := by decide +kernel
theorem bp_52 : (Int8.ofInt (52)).toInt32 = 52 := by decide +kernel
theorem bp_53 : (Int8.ofInt (53)).toInt32 = 53 := by decide +kernel
theorem bp_54 : (Int8.ofInt (54)).toInt32 = 54 := by decide +kernel
theorem bp_55 : (Int8.ofInt (55)).toInt32 = 55 := by decide +kernel
theorem bp_56 : (Int8.ofInt (56)).toInt32 = 56 := by decide +kernel
theorem bp_57 : (Int8.ofInt (57)).toInt32 = 57 := by decide +kernel
theorem bp_58 : (Int8.ofInt (58)).toInt32 = 58 := by decide +kernel
theorem bp_59 : (Int8.ofInt (59)).toInt32 = 59 := by decide +kernel
theorem bp_60 : (Int8.ofInt (60)).toInt32 = 60 := by decide +kernel
theorem bp_61 : (Int8.ofInt (61)).toInt32 = 61 := by decide +kernel
theorem bp_62 : (Int8.ofInt (62)).toInt32 = 62 := by decide +kernel
theorem bp_63 : (Int8.ofInt (63)).toInt32 = 63 := by decide +kernel
theorem bp_64 : (Int8.ofInt (64)).toInt32 = 64 := by decide +kernel
theorem bp_65 : (Int8.ofInt (65)).toInt32 = 65 := by decide +kernel
theorem bp_66 : (Int8.ofInt (66)).toInt32 = 66 := by decide +kernel
theorem bp_67 : (Int8.ofInt (67)).toInt32 = 67 := by decide +kernel
theorem bp_68 : (Int8.ofInt (68)).toInt32 = 68 := by decide +kernel
theorem bp_69 : (Int8.ofInt (69)).toInt32 = 69 := by decide +kernel
theorem bp_70 : (Int8.ofInt (70)).toInt32 = 70 := by decide +kernel
theorem bp_71 : (Int8.ofInt (71)).toInt32 = 71 := by decide +kernel
theorem bp_72 : (Int8.ofInt (72)).toInt32 = 72 := by decide +kernel
theorem bp_73 : (Int8.ofInt (73)).toInt32 = 73 := by decide +kernel
theorem bp_74 : (Int8.ofInt (74)).toInt32 = 74 := by decide +kernel
theorem bp_75 : (Int8.ofInt (75)).toInt32 = 75 := by decide +kernel
theorem bp_76 : (Int8.ofInt (76)).toInt32 = 76 := by decide +kernel
theorem bp_77 : (Int8.ofInt (77)).toInt32 = 77 := by decide +kernel
theorem bp_78 : (Int8.ofInt (78)).toInt32 = 78 := by decide +kernel
theorem bp_79 : (Int8.ofInt (79)).toInt32 = 79 := by decide +kernel
theorem bp_80 : (Int8.ofInt (80)).toInt32 = 80 := by decide +kernel
theorem bp_81 : (Int8.ofInt (81)).toInt32 = 81 := by decide +kernel
theorem bp_82 : (Int8.ofInt (82)).toInt32 = 82 := by decide +kernel
theorem bp_83 : (Int8.ofInt (83)).toInt32 = 83 := by decide +kernel
theorem bp_84 : (Int8.ofInt (84)).toInt32 = 84 := by decide +kernel
theorem bp_85 : (Int8.ofInt (85)).toInt32 = 85 := by decide +kernel
theorem bp_86 : (Int8.ofInt (86)).toInt32 = 86 := by decide +kernel
theorem bp_87 : (Int8.ofInt (87)).toInt32 = 87 := by decide +kernel
theorem bp_88 : (Int8.ofInt (88)).toInt32 = 88 := by decide +kernel
theorem bp_89 : (Int8.ofInt (89)).toInt32 = 89 := by decide +kernel
theorem bp_90 : (Int8.ofInt (90)).toInt32 = 90 := by decide +kernel
theorem bp_91 : (Int8.ofInt (91)).toInt32 = 91 := by decide +kernel
theorem bp_92 : (Int8.ofInt (92)).toInt32 = 92 := by decide +kernel
theorem bp_93 : (Int8.ofInt (93)).toInt32 = 93 := by decide +kernel
theorem bp_94 : (Int8.ofInt (94)).toInt32 = 94 := by decide +kernel
theorem bp_95 : (Int8.ofInt (95)).toInt32 = 95 := by decide +kernel
theorem bp_96 : (Int8.ofInt (96)).toInt32 = 96 := by decide +kernel
theorem bp_97 : (Int8.ofInt (97)).toInt32 = 97 := by decide +kernel
theorem bp_98 : (Int8.ofInt (98)).toInt32 = 98 := by decide +kernel
theorem bp_99 : (Int8.ofInt (99)).toInt32 = 99 := by decide +kernel
theorem bp_100 : (Int8.ofInt (100)).toInt32 = 100 := by decide +kernel
theorem bp_101 : (Int8.ofInt (101)).toInt32 = 101 := by decide +kernel
theorem bp_102 : (Int8.ofInt (102)).toInt32 = 102 := by decide +kernel
theorem bp_103 : (Int8.ofInt (103)).toInt32 = 103 := by decide +kernel
theorem bp_104 : (Int8.ofInt (104)).toInt32 = 104 := by decide +kernel
theorem bp_105 : (Int8.ofInt (105)).toInt32 = 105 := by decide +kernel
theorem bp_106 : (Int8.ofInt (106)).toInt32 = 106 := by decide +kernel
theorem bp_107 : (Int8.ofInt (107)).toInt32 = 107 := by decide +kernel
theorem bp_108 : (Int8.ofInt (108)).toInt32 = 108 := by decide +kernel
theorem bp_109 : (Int8.ofInt (109)).toInt32 = 109 := by decide +kernel
theorem bp_110 : (Int8.ofInt (110)).toInt32 = 110 := by decide +kernel
theorem bp_111 : (Int8.ofInt (111)).toInt32 = 111 := by decide +kernel
theorem bp_112 : (Int8.ofInt (112)).toInt32 = 112 := by decide +kernel
theorem bp_113 : (Int8.ofInt (113)).toInt32 = 113 := by decide +kernel
theorem bp_114 : (Int8.ofInt (114)).toInt32 = 114 := by decide +kernel
theorem bp_115 : (Int8.ofInt (115)).toInt32 = 115 := by decide +kernel
theorem bp_116 : (Int8.ofInt (116)).toInt32 = 116 := by decide +kernel
theorem bp_117 : (Int8.ofInt (117)).toInt32 = 117 := by decide +kernel
theorem bp_118 : (Int8.ofInt (118)).toInt32 = 118 := by decide +kernel
theorem bp_119 : (Int8.ofInt (119)).toInt32 = 119 := by decide +kernel
theorem bp_120 : (Int8.ofInt (120)).toInt32 = 120 := by decide +kernel
theorem bp_121 : (Int8.ofInt (121)).toInt32 = 121 := by decide +kernel
theorem bp_122 : (Int8.ofInt (122)).toInt32 = 122 := by decide +kernel
theorem bp_123 : (Int8.ofInt (123)).toInt32 = 123 := by decide +kernel
theorem bp_124 : (Int8.ofInt (124)).toInt32 = 124 := by decide +kernel
theorem bp_125 : (Int8.ofInt (125)).toInt32 = 125 := by decide +kernel
theorem bp_126 : (Int8.ofInt (126)).toInt32 = 126 := by decide +kernel
theorem bp_127 : (Int8.ofInt (127)).toInt32 = 127 := by decide +kernel
theorem sp_128 : (Int16.ofInt (128)).toInt32 = 128 := by decide +kernel
theorem sp_250 : (Int16.ofInt (250)).toInt32 = 250 := by decide +kernel
theorem sp_255 : (Int16.ofInt (255)).toInt32 = 255 := by decide +kernel
theorem sp_1000 : (Int16.ofInt (1000)).toInt32 = 1000 := by decide +kernel
theorem sp_10000 : (Int16.ofInt (10000)).toInt32 = 10000 := by decide +kernel
theorem sp_12345 : (Int16.ofInt (12345)).toInt32 = 12345 := by decide +kernel
theorem sp_m128 : (Int16.ofInt (-128)).toInt32 = -128 := by decide +kernel
theorem sp_625 : (Int16.ofInt (625)).toInt32 = 625 := by decide +kernel
theorem sp_m1000 : (Int16.ofInt (-1000)).toInt32 = -1000 := by decide +kernel
theorem sp_200 : (Int16.ofInt (200)).toInt32 = 200 := by decide +kernel
theorem lc_0 : Int64.ofNat ((0 : Fin 2) : Nat) = 0 := by decide +kernel
theorem lc_1 : Int64.ofNat ((1 : Fin 2) : Nat) = 1 := by decide +kernel
