/-! what a function of the small machine leaves as it was -/
def kpS (S : List (Nat × Option Nat × Option Nat)) (k o j : Nat) : Bool := S.any (fun e => Nat.beq e.1 k && (match e.2.1 with | none => true | some x => Nat.beq x o) && (match e.2.2 with | none => true | some x => Nat.beq x j))
def kpSub (S' S : List (Nat × Option Nat × Option Nat)) : Bool := S'.all (fun e => S.any (fun d => Nat.beq d.1 e.1 && (match d.2.1 with | none => true | some x => (match e.2.1 with | none => false | some y => Nat.beq x y)) && (match d.2.2 with | none => true | some x => (match e.2.2 with | none => false | some y => Nat.beq x y))))
theorem kp_beq {x y : Nat} : Nat.beq x y = true ↔ x = y := ⟨Nat.eq_of_beq_eq_true, fun h => by rw [h]; exact Nat.beq_refl y⟩
theorem kpSub_S {S' S : List (Nat × Option Nat × Option Nat)} (h : kpSub S' S = true) {k o j : Nat} (hk : kpS S' k o j = true) : kpS S k o j = true := by
  obtain ⟨e, he, h1⟩ := List.any_eq_true.mp hk
  obtain ⟨d, hd, h2⟩ := List.any_eq_true.mp (List.all_eq_true.mp h e he)
  refine List.any_eq_true.mpr ⟨d, hd, ?_⟩
  obtain ⟨d1, d2, d3⟩ := d
  obtain ⟨e1, e2, e3⟩ := e
  simp only [Bool.and_eq_true, kp_beq] at h1 h2 ⊢
  obtain ⟨⟨a1, a2⟩, a3⟩ := h1
  obtain ⟨⟨b1, b2⟩, b3⟩ := h2
  refine ⟨⟨b1.trans a1, ?_⟩, ?_⟩
  · cases d2 with
    | none => rfl
    | some x =>
      cases e2 with
      | none => cases b2
      | some y => simp only [kp_beq] at a2 b2 ⊢; exact b2.trans a2
  · cases d3 with
    | none => rfl
    | some x =>
      cases e3 with
      | none => cases b3
      | some y => simp only [kp_beq] at a3 b3 ⊢; exact b3.trans a3
def keeps (S : List (Nat × Option Nat × Option Nat)) (M N : am_M) : Prop := ∀ k o i j, kpS S k o j = false → N.1 k o i j = M.1 k o i j ∧ N.2 k o i j = M.2 k o i j
theorem keeps.rf (S : List (Nat × Option Nat × Option Nat)) (M : am_M) : keeps S M M := fun _ _ _ _ _ => ⟨rfl, rfl⟩
theorem keeps.trans {S : List (Nat × Option Nat × Option Nat)} {M N P : am_M} (h : keeps S M N) (h' : keeps S N P) : keeps S M P := fun k o i j hk => ⟨(h' k o i j hk).1.trans (h k o i j hk).1, (h' k o i j hk).2.trans (h k o i j hk).2⟩
theorem keeps.mono {S' S : List (Nat × Option Nat × Option Nat)} {M N : am_M} (h : keeps S' M N) (hs : kpSub S' S = true) : keeps S M N := fun k o i j hk => h k o i j (by
  cases hz : kpS S' k o j with
  | false => rfl
  | true => rw [kpSub_S hs hz] at hk; cases hk)
theorem keeps.si {S : List (Nat × Option Nat × Option Nat)} {M N : am_M} {k o i j : Nat} {v : Int32} (h : keeps S M N) (hs : kpS S k o j = true) : keeps S M (am_si N k o i j v) := fun k' o' i' j' hk => by
  refine ⟨?_, (h k' o' i' j' hk).2⟩
  rw [am_si_ne (fun z => ?_)]
  · exact (h k' o' i' j' hk).1
  · rw [z.1, z.2.1, z.2.2.2, hs] at hk; cases hk
theorem keeps.sl {S : List (Nat × Option Nat × Option Nat)} {M N : am_M} {k o i j : Nat} {v : Int64} (h : keeps S M N) (hs : kpS S k o j = true) : keeps S M (am_sl N k o i j v) := fun k' o' i' j' hk => by
  refine ⟨(h k' o' i' j' hk).1, ?_⟩
  rw [am_sl_ne (fun z => ?_)]
  · exact (h k' o' i' j' hk).2
  · rw [z.1, z.2.1, z.2.2.2, hs] at hk; cases hk
theorem keeps.ri {S : List (Nat × Option Nat × Option Nat)} {M N : am_M} {k o i : Nat} {f : Nat → Int32} (h : keeps S M N) (hs : ∀ j, kpS S k o j = true) : keeps S M (am_ri N k o i f) := fun k' o' i' j' hk => by
  refine ⟨?_, (h k' o' i' j' hk).2⟩
  show (if k' = k ∧ o' = o ∧ i' = i then f j' else N.1 k' o' i' j') = _
  rw [if_neg (fun z => ?_)]
  · exact (h k' o' i' j' hk).1
  · rw [z.1, z.2.1, hs] at hk; cases hk
theorem keeps.rl {S : List (Nat × Option Nat × Option Nat)} {M N : am_M} {k o i : Nat} {f : Nat → Int64} (h : keeps S M N) (hs : ∀ j, kpS S k o j = true) : keeps S M (am_rl N k o i f) := fun k' o' i' j' hk => by
  refine ⟨(h k' o' i' j' hk).1, ?_⟩
  show (if k' = k ∧ o' = o ∧ i' = i then f j' else N.2 k' o' i' j') = _
  rw [if_neg (fun z => ?_)]
  · exact (h k' o' i' j' hk).2
  · rw [z.1, z.2.1, hs] at hk; cases hk
def kp {α : Type} (S : List (Nat × Option Nat × Option Nat)) (M : am_M) (mem : α → am_M) (x : Option α) : Prop := ∀ y, x = some y → keeps S M (mem y)
section KP
variable {α β γ : Type} {S S' : List (Nat × Option Nat × Option Nat)} {M N : am_M} {mem : β → am_M}
theorem kp_none : kp S M mem none := fun _ h => by cases h
theorem kp_some {y : β} (h : keeps S M (mem y)) : kp S M mem (some y) := fun z hz => by cases hz; exact h
theorem kp_some_m {y : am_M} (h : keeps S M y) : kp S M id (some y) := fun z hz => by cases hz; exact h
theorem kp_some_p {a : γ} {y : am_M} (h : keeps S M y) : kp S M Prod.snd (some (a, y)) := fun z hz => by cases hz; exact h
theorem kp_some_q {α : Type} {a : γ} {b : α} {y : am_M} (h : keeps S M y) : kp S M (fun y : γ × α × am_M => y.2.2) (some (a, b, y)) := fun z hz => by cases hz; exact h
theorem kp_ite {c : Prop} [Decidable c] {a b : Option β} (h1 : kp S M mem a) (h2 : kp S M mem b) : kp S M mem (if c then a else b) := by
  by_cases hc : c
  · rw [if_pos hc]; exact h1
  · rw [if_neg hc]; exact h2
theorem kp_bind_m {x : Option am_M} {f : am_M → Option β} (h1 : kp S M id x) (h2 : ∀ z, keeps S M z → kp S M mem (f z)) : kp S M mem (x.bind f) := fun y hy => by
  obtain ⟨z, hz, hy⟩ := am_bnd hy
  exact h2 z (h1 z hz) y hy
theorem kp_bind_p {x : Option (γ × am_M)} {f : γ × am_M → Option β} (h1 : kp S M Prod.snd x) (h2 : ∀ z : γ × am_M, keeps S M z.2 → kp S M mem (f z)) : kp S M mem (x.bind f) := fun y hy => by
  obtain ⟨z, hz, hy⟩ := am_bnd hy
  exact h2 z (h1 z hz) y hy
theorem kp_bind_q {α : Type} {x : Option (γ × α × am_M)} {f : γ × α × am_M → Option β} (h1 : kp S M (fun y : γ × α × am_M => y.2.2) x) (h2 : ∀ z : γ × α × am_M, keeps S M z.2.2 → kp S M mem (f z)) : kp S M mem (x.bind f) := fun y hy => by
  obtain ⟨z, hz, hy⟩ := am_bnd hy
  exact h2 z (h1 z hz) y hy
theorem kp_bind_v {x : Option γ} {f : γ → Option β} (h2 : ∀ z, kp S M mem (f z)) : kp S M mem (x.bind f) := fun y hy => by
  obtain ⟨z, hz, hy⟩ := am_bnd hy
  exact h2 z y hy
theorem kp_let_m {a : am_M} {f : am_M → Option β} (h1 : keeps S M a) (h2 : ∀ z, keeps S M z → kp S M mem (f z)) : kp S M mem (am_let a f) := h2 a h1
theorem kp_let_v {a : γ} {f : γ → Option β} (h2 : ∀ z, kp S M mem (f z)) : kp S M mem (am_let a f) := h2 a
theorem kp_call {x : Option β} (h : kp S' N mem x) (hs : kpSub S' S = true) (hk : keeps S M N) : kp S M mem x := fun y hy => hk.trans ((h y hy).mono hs)
end KP
