abbrev am_L : Type := Nat × Nat × Nat
/-- a field: .inl 0 an int, .inl 1 a long, .inl 2 not looked at, .inr (kind, object or the owner's own): a row or object that is its own for ever -/
abbrev am_F : Type := Nat ⊕ (Nat × Option Nat)
/-- a kind: an object (class number, fields), a row of numbers (type number, length), a row of rows or objects -/
abbrev am_S : Type := (Nat × Nat × (Nat → am_F)) ⊕ ((Nat × Nat) ⊕ (Nat × Nat × (Nat → Nat → am_L)))
def am_ff (l : List am_F) (j : Nat) : am_F := l.getD j (.inl 2)
def am_f0 : Nat → am_F := am_ff [.inl 0, .inl 0, .inr (102, none), .inr (103, none), .inr (104, none), .inr (105, none), .inr (106, none), .inr (107, none)]
def am_f1 : Nat → am_F := am_ff [.inl 0, .inl 0, .inl 0, .inr (203, none), .inr (204, none), .inr (205, none), .inl 0, .inl 0, .inr (208, none), .inl 0, .inr (210, none), .inr (211, none), .inr (212, none), .inl 0]
def am_f2 : Nat → am_F := am_ff [.inl 0, .inl 0, .inl 0, .inr (303, none)]
def am_f3 : Nat → am_F := am_ff [.inl 0, .inl 0, .inr (402, none), .inl 0, .inl 0, .inl 0]
def am_f4 : Nat → am_F := am_ff [.inr (1, some 0), .inr (1, some 1), .inr (1, some 2), .inr (0, some 0), .inr (3, some 0), .inr (505, none), .inr (506, none), .inr (507, none), .inl 0]
def am_f5 : Nat → am_F := am_ff [.inr (600, none), .inr (601, none), .inr (602, none), .inr (603, none), .inr (604, none), .inr (605, none), .inr (606, none), .inr (607, none), .inl 0, .inr (609, none), .inl 0, .inr (611, none), .inr (612, none), .inr (613, none), .inl 0, .inr (615, none), .inl 0, .inr (617, none), .inl 0, .inl 2, .inl 2, .inl 0, .inl 0, .inl 0, .inl 0, .inl 0, .inr (626, none), .inl 0, .inr (628, none), .inl 0, .inr (630, none), .inr (631, none), .inr (632, none), .inr (633, none), .inr (634, none), .inr (635, none), .inr (636, none), .inr (637, none), .inl 1, .inl 0]
def am_look (k : Nat) : List (Nat × am_S) → am_S
  | [] => .inr (.inl (0, 0))
  | q :: l => cond (Nat.beq q.1 k) q.2 (am_look k l)
def am_shT : List (Nat × am_S) := [(0, .inl (0, 8, am_f0)), (1, .inl (1, 14, am_f1)), (2, .inl (2, 4, am_f2)), (3, .inl (3, 6, am_f3)), (4, .inl (4, 9, am_f4)), (5, .inl (5, 40, am_f5)), (102, .inr (.inl (0, 25))), (103, .inr (.inl (0, 25))), (104, .inr (.inl (0, 25))), (105, .inr (.inl (0, 25))), (106, .inr (.inl (2, 25))), (107, .inr (.inl (0, 625))), (203, .inr (.inl (0, 4))), (204, .inr (.inl (0, 4))), (205, .inr (.inl (0, 4))), (208, .inr (.inl (0, 24))), (210, .inr (.inl (0, 4))), (211, .inr (.inl (0, 4))), (212, .inr (.inl (0, 4))), (303, .inr (.inl (2, 40))), (402, .inr (.inl (0, 250))), (505, .inr (.inr (3, 8, fun _ i => (2, i, 0)))), (506, .inr (.inl (0, 4))), (507, .inr (.inl (0, 5))), (600, .inr (.inl (0, 8))), (601, .inr (.inl (0, 8))), (602, .inr (.inl (0, 8))), (603, .inr (.inr (4, 8, fun o i => (703, o, i)))), (604, .inr (.inl (2, 40))), (605, .inr (.inl (0, 8))), (606, .inr (.inl (0, 8))), (607, .inr (.inl (0, 250))), (609, .inr (.inl (0, 8))), (611, .inr (.inl (0, 4))), (612, .inr (.inl (0, 4))), (613, .inr (.inl (0, 4))), (615, .inr (.inr (5, 4, fun o i => (715, o, i)))), (617, .inr (.inl (0, 24))), (626, .inr (.inl (0, 3))), (628, .inr (.inr (6, 25, fun o i => (728, o, i)))), (630, .inr (.inr (4, 25, fun o i => (730, o, i)))), (631, .inr (.inr (4, 25, fun o i => (731, o, i)))), (632, .inr (.inr (4, 25, fun o i => (732, o, i)))), (633, .inr (.inr (4, 25, fun o i => (733, o, i)))), (634, .inr (.inl (2, 25))), (635, .inr (.inr (6, 25, fun o i => (735, o, i)))), (636, .inr (.inl (0, 4))), (637, .inr (.inl (0, 4))), (703, .inr (.inl (2, 40))), (715, .inr (.inl (0, 3))), (728, .inr (.inl (1, 25))), (730, .inr (.inl (2, 25))), (731, .inr (.inl (2, 25))), (732, .inr (.inl (2, 25))), (733, .inr (.inl (2, 25))), (735, .inr (.inl (1, 25)))]
def am_sh (k : Nat) : am_S := am_look k am_shT
theorem sh_0 : am_sh 0 = .inl (0, 8, am_f0) := rfl
theorem sh_1 : am_sh 1 = .inl (1, 14, am_f1) := rfl
theorem sh_2 : am_sh 2 = .inl (2, 4, am_f2) := rfl
theorem sh_3 : am_sh 3 = .inl (3, 6, am_f3) := rfl
theorem sh_4 : am_sh 4 = .inl (4, 9, am_f4) := rfl
theorem sh_5 : am_sh 5 = .inl (5, 40, am_f5) := rfl
theorem sh_102 : am_sh 102 = .inr (.inl (0, 25)) := rfl
theorem sh_103 : am_sh 103 = .inr (.inl (0, 25)) := rfl
theorem sh_104 : am_sh 104 = .inr (.inl (0, 25)) := rfl
theorem sh_105 : am_sh 105 = .inr (.inl (0, 25)) := rfl
theorem sh_106 : am_sh 106 = .inr (.inl (2, 25)) := rfl
theorem sh_107 : am_sh 107 = .inr (.inl (0, 625)) := rfl
theorem sh_203 : am_sh 203 = .inr (.inl (0, 4)) := rfl
theorem sh_204 : am_sh 204 = .inr (.inl (0, 4)) := rfl
theorem sh_205 : am_sh 205 = .inr (.inl (0, 4)) := rfl
theorem sh_208 : am_sh 208 = .inr (.inl (0, 24)) := rfl
theorem sh_210 : am_sh 210 = .inr (.inl (0, 4)) := rfl
theorem sh_211 : am_sh 211 = .inr (.inl (0, 4)) := rfl
theorem sh_212 : am_sh 212 = .inr (.inl (0, 4)) := rfl
theorem sh_303 : am_sh 303 = .inr (.inl (2, 40)) := rfl
theorem sh_402 : am_sh 402 = .inr (.inl (0, 250)) := rfl
theorem sh_505 : am_sh 505 = .inr (.inr (3, 8, fun _ i => (2, i, 0))) := rfl
theorem sh_506 : am_sh 506 = .inr (.inl (0, 4)) := rfl
theorem sh_507 : am_sh 507 = .inr (.inl (0, 5)) := rfl
theorem sh_600 : am_sh 600 = .inr (.inl (0, 8)) := rfl
theorem sh_601 : am_sh 601 = .inr (.inl (0, 8)) := rfl
theorem sh_602 : am_sh 602 = .inr (.inl (0, 8)) := rfl
theorem sh_603 : am_sh 603 = .inr (.inr (4, 8, fun o i => (703, o, i))) := rfl
theorem sh_604 : am_sh 604 = .inr (.inl (2, 40)) := rfl
theorem sh_605 : am_sh 605 = .inr (.inl (0, 8)) := rfl
theorem sh_606 : am_sh 606 = .inr (.inl (0, 8)) := rfl
theorem sh_607 : am_sh 607 = .inr (.inl (0, 250)) := rfl
theorem sh_609 : am_sh 609 = .inr (.inl (0, 8)) := rfl
theorem sh_611 : am_sh 611 = .inr (.inl (0, 4)) := rfl
theorem sh_612 : am_sh 612 = .inr (.inl (0, 4)) := rfl
theorem sh_613 : am_sh 613 = .inr (.inl (0, 4)) := rfl
theorem sh_615 : am_sh 615 = .inr (.inr (5, 4, fun o i => (715, o, i))) := rfl
theorem sh_617 : am_sh 617 = .inr (.inl (0, 24)) := rfl
theorem sh_626 : am_sh 626 = .inr (.inl (0, 3)) := rfl
theorem sh_628 : am_sh 628 = .inr (.inr (6, 25, fun o i => (728, o, i))) := rfl
theorem sh_630 : am_sh 630 = .inr (.inr (4, 25, fun o i => (730, o, i))) := rfl
theorem sh_631 : am_sh 631 = .inr (.inr (4, 25, fun o i => (731, o, i))) := rfl
theorem sh_632 : am_sh 632 = .inr (.inr (4, 25, fun o i => (732, o, i))) := rfl
theorem sh_633 : am_sh 633 = .inr (.inr (4, 25, fun o i => (733, o, i))) := rfl
theorem sh_634 : am_sh 634 = .inr (.inl (2, 25)) := rfl
theorem sh_635 : am_sh 635 = .inr (.inr (6, 25, fun o i => (735, o, i))) := rfl
theorem sh_636 : am_sh 636 = .inr (.inl (0, 4)) := rfl
theorem sh_637 : am_sh 637 = .inr (.inl (0, 4)) := rfl
theorem sh_703 : am_sh 703 = .inr (.inl (2, 40)) := rfl
theorem sh_715 : am_sh 715 = .inr (.inl (0, 3)) := rfl
theorem sh_728 : am_sh 728 = .inr (.inl (1, 25)) := rfl
theorem sh_730 : am_sh 730 = .inr (.inl (2, 25)) := rfl
theorem sh_731 : am_sh 731 = .inr (.inl (2, 25)) := rfl
theorem sh_732 : am_sh 732 = .inr (.inl (2, 25)) := rfl
theorem sh_733 : am_sh 733 = .inr (.inl (2, 25)) := rfl
theorem sh_735 : am_sh 735 = .inr (.inl (1, 25)) := rfl
abbrev am_Mi : Type := String × MethodName × ByteArray × Nat × Option FieldType
