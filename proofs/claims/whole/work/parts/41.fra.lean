theorem fr_l_X0_layHeap_2 {a1 : Int32} {a2 : Int32} : ∀ (n : Nat) (a3 : Int32) (M : am_M), kp [(103, some 0, none)] M id (l_X0_layHeap_2 a1 a2 n a3 M) := by
  intro n
  induction n with
  | zero => intro a3 M; exact kp_none
  | succ n ih =>
    intro a3 M
    rw [l_X0_layHeap_2]
    refine kp_ite ?_ ?_
    ·
      exact kp_some_m (keeps.rf _ _)
    ·
      refine kp_ite ?_ ?_
      ·
        exact kp_some_m (keeps.rf _ _)
      ·
        refine kp_bind_v (fun r2 => ?_)
        refine kp_ite ?_ ?_
        ·
          refine kp_let_m (keeps.si (keeps.rf _ _) (by first | rfl | (simp [kpS]; done))) (fun M4 q1 => ?_)
          refine kp_let_v (fun v5 => ?_)
          exact kp_call (ih _ _) (by first | rfl | (simp [kpSub]; done)) q1
        ·
          exact kp_none
theorem fr_f_X0_layHeap {M : am_M} {x1 : Int32} {x2 : Int32} : kp [(0, some 0, some 0), (0, some 0, some 1), (103, some 0, none)] M id (f_X0_layHeap M x1 x2) := by
  unfold f_X0_layHeap
  refine kp_bind_m (kp_call (fr_l_X0_layHeap_2 _ _ _) (by first | rfl | (simp [kpSub]; done)) (keeps.rf _ _)) (fun z8 q1 => ?_)
  refine kp_let_m (keeps.si q1 (by first | rfl | (simp [kpS]; done))) (fun M11 q2 => ?_)
  refine kp_let_m (keeps.si q2 (by first | rfl | (simp [kpS]; done))) (fun M12 q3 => ?_)
  exact kp_some_m q3
theorem fr_f_X0_layNothing {M : am_M} : kp [(0, some 0, some 0), (0, some 0, some 1), (103, some 0, none)] M id (f_X0_layNothing M) := by
  unfold f_X0_layNothing
  refine kp_let_m (keeps.si (keeps.rf _ _) (by first | rfl | (simp [kpS]; done))) (fun M1 q1 => ?_)
  refine kp_let_m (keeps.si q1 (by first | rfl | (simp [kpS]; done))) (fun M2 q2 => ?_)
  refine kp_let_m (keeps.si q2 (by first | rfl | (simp [kpS]; done))) (fun M3 q3 => ?_)
  exact kp_some_m q3
theorem fr_l_X0_layHeaps_6 {k2 : Nat} {p2 : Nat} {q2 : Nat} {n2 : Nat} {o1a : Nat} : ∀ (n : Nat) (a3 : Int32) (M : am_M), kp [(0, some 0, some 0), (0, some 0, some 1), (103, some 0, none)] M id (l_X0_layHeaps_6 k2 p2 q2 n2 o1a n a3 M) := by
  intro n
  induction n with
  | zero => intro a3 M; exact kp_none
  | succ n ih =>
    intro a3 M
    rw [l_X0_layHeaps_6]
    refine kp_ite ?_ ?_
    ·
      exact kp_some_m (keeps.rf _ _)
    ·
      refine kp_ite ?_ ?_
      ·
        exact kp_some_m (keeps.rf _ _)
      ·
        refine kp_ite ?_ ?_
        ·
          refine kp_ite ?_ ?_
          ·
            refine kp_ite ?_ ?_
            ·
              refine kp_ite ?_ ?_
              ·
                refine kp_bind_m (kp_call fr_f_X0_layHeap (by first | rfl | (simp [kpSub]; done)) (keeps.rf _ _)) (fun r8 q1 => ?_)
                refine kp_let_v (fun v9 => ?_)
                exact kp_call (ih _ _) (by first | rfl | (simp [kpSub]; done)) q1
              ·
                exact kp_none
            ·
              exact kp_none
          ·
            exact kp_none
        ·
          exact kp_none
theorem fr_f_X0_layHeaps {M : am_M} {o1 : Nat} {k2 : Nat} {p2 : Nat} {q2 : Nat} {n2 : Nat} : kp [(0, some 0, some 0), (0, some 0, some 1), (103, some 0, none)] M id (f_X0_layHeaps M o1 k2 p2 q2 n2) := by
  unfold f_X0_layHeaps
  refine kp_bind_m (kp_call fr_f_X0_layNothing (by first | rfl | (simp [kpSub]; done)) (keeps.rf _ _)) (fun r2 q1 => ?_)
  refine kp_bind_m (kp_call (fr_l_X0_layHeaps_6 _ _ _) (by first | rfl | (simp [kpSub]; done)) q1) (fun z12 q2 => ?_)
  exact kp_some_m q2
theorem fr_f_X0_layShaken {M : am_M} {o1 : Nat} : kp [(0, some 0, some 0), (0, some 0, some 1), (103, some 0, none)] M id (f_X0_layShaken M o1) := by
  unfold f_X0_layShaken
  refine kp_bind_m (kp_call fr_f_X0_layNothing (by first | rfl | (simp [kpSub]; done)) (keeps.rf _ _)) (fun r2 q1 => ?_)
  refine kp_bind_m (kp_call fr_f_X0_layHeap (by first | rfl | (simp [kpSub]; done)) q1) (fun r4 q2 => ?_)
  exact kp_some_m q2
theorem fr_f_X0_keepAt {M : am_M} {x1 : Int32} {x2 : Int32} : kp [(103, some 0, none)] M id (f_X0_keepAt M x1 x2) := by
  unfold f_X0_keepAt
  refine kp_ite ?_ ?_
  ·
    exact kp_some_m (keeps.rf _ _)
  ·
    refine kp_ite ?_ ?_
    ·
      refine kp_bind_v (fun r3 => ?_)
      refine kp_ite ?_ ?_
      ·
        refine kp_let_m (keeps.si (keeps.rf _ _) (by first | rfl | (simp [kpS]; done))) (fun M5 q1 => ?_)
        exact kp_some_m q1
      ·
        exact kp_none
    ·
      exact kp_none
theorem fr_l_X0_keepAhead_3 {a1 : Int32} {a3 : Int32} : ∀ (n : Nat) (a4 : Int32) (M : am_M), kp [(103, some 0, none)] M id (l_X0_keepAhead_3 a1 a3 n a4 M) := by
  intro n
  induction n with
  | zero => intro a4 M; exact kp_none
  | succ n ih =>
    intro a4 M
    rw [l_X0_keepAhead_3]
    refine kp_ite ?_ ?_
    ·
      exact kp_some_m (keeps.rf _ _)
    ·
      refine kp_ite ?_ ?_
      ·
        exact kp_some_m (keeps.rf _ _)
      ·
        refine kp_ite ?_ ?_
        ·
          refine kp_bind_v (fun r3 => ?_)
          refine kp_ite ?_ ?_
          ·
            refine kp_let_m (keeps.si (keeps.rf _ _) (by first | rfl | (simp [kpS]; done))) (fun M5 q1 => ?_)
            refine kp_let_v (fun v6 => ?_)
            exact kp_call (ih _ _) (by first | rfl | (simp [kpSub]; done)) q1
          ·
            exact kp_none
        ·
          exact kp_none
theorem fr_f_X0_keepAhead {M : am_M} {x1 : Int32} {x2 : Int32} {x3 : Int32} : kp [(103, some 0, none)] M id (f_X0_keepAhead M x1 x2 x3) := by
  unfold f_X0_keepAhead
  refine kp_bind_m (kp_call (fr_l_X0_keepAhead_3 _ _ _) (by first | rfl | (simp [kpSub]; done)) (keeps.rf _ _)) (fun z9 q1 => ?_)
  exact kp_some_m q1
theorem fr_f_X0_keepLevel {M : am_M} {x1 : Int32} : kp [(103, some 0, none)] M id (f_X0_keepLevel M x1) := by
  unfold f_X0_keepLevel
  refine kp_ite ?_ ?_
  ·
    exact kp_some_m (keeps.rf _ _)
  ·
    refine kp_ite ?_ ?_
    ·
      refine kp_bind_v (fun r3 => ?_)
      refine kp_ite ?_ ?_
      ·
        refine kp_let_m (keeps.si (keeps.rf _ _) (by first | rfl | (simp [kpS]; done))) (fun M5 q1 => ?_)
        exact kp_some_m q1
      ·
        exact kp_none
    ·
      exact kp_none
theorem fr_l_X0_keepNotBehind_2 {a2 : Int32} : ∀ (n : Nat) (a3 : Int32) (M : am_M), kp [(103, some 0, none)] M id (l_X0_keepNotBehind_2 a2 n a3 M) := by
  intro n
  induction n with
  | zero => intro a3 M; exact kp_none
  | succ n ih =>
    intro a3 M
    rw [l_X0_keepNotBehind_2]
    refine kp_ite ?_ ?_
    ·
      exact kp_some_m (keeps.rf _ _)
    ·
      refine kp_ite ?_ ?_
      ·
        exact kp_some_m (keeps.rf _ _)
      ·
        refine kp_ite ?_ ?_
        ·
          refine kp_bind_v (fun r3 => ?_)
          refine kp_ite ?_ ?_
          ·
            refine kp_let_m (keeps.si (keeps.rf _ _) (by first | rfl | (simp [kpS]; done))) (fun M5 q1 => ?_)
            refine kp_let_v (fun v6 => ?_)
            exact kp_call (ih _ _) (by first | rfl | (simp [kpSub]; done)) q1
          ·
            exact kp_none
        ·
          exact kp_none
theorem fr_f_X0_keepNotBehind {M : am_M} {x1 : Int32} {x2 : Int32} : kp [(103, some 0, none)] M id (f_X0_keepNotBehind M x1 x2) := by
  unfold f_X0_keepNotBehind
  refine kp_bind_m (kp_call (fr_l_X0_keepNotBehind_2 _ _ _) (by first | rfl | (simp [kpSub]; done)) (keeps.rf _ _)) (fun z9 q1 => ?_)
  exact kp_some_m q1
theorem fr_f_X0_keepFact {M : am_M} {x1 : Int32} {x2 : Int32} {x3 : Int32} : kp [(103, some 0, none)] M id (f_X0_keepFact M x1 x2 x3) := by
  unfold f_X0_keepFact
  refine kp_ite ?_ ?_
  ·
    refine kp_bind_m (kp_call fr_f_X0_keepAt (by first | rfl | (simp [kpSub]; done)) (keeps.rf _ _)) (fun r3 q1 => ?_)
    exact kp_some_m q1
  ·
    refine kp_ite ?_ ?_
    ·
      refine kp_bind_m (kp_call fr_f_X0_keepAhead (by first | rfl | (simp [kpSub]; done)) (keeps.rf _ _)) (fun r6 q2 => ?_)
      exact kp_some_m q2
    ·
      refine kp_ite ?_ ?_
      ·
        refine kp_bind_m (kp_call fr_f_X0_keepLevel (by first | rfl | (simp [kpSub]; done)) (keeps.rf _ _)) (fun r9 q3 => ?_)
        exact kp_some_m q3
      ·
        refine kp_bind_m (kp_call fr_f_X0_keepNotBehind (by first | rfl | (simp [kpSub]; done)) (keeps.rf _ _)) (fun r11 q4 => ?_)
        exact kp_some_m q4
theorem fr_l_X0_layFitting_13 {o1a : Nat} : ∀ (n : Nat) (a2 : Int32) (a3 : Int32) (M : am_M), kp [(103, some 0, none)] M id (l_X0_layFitting_13 o1a n a2 a3 M) := by
  intro n
  induction n with
  | zero => intro a2 a3 M; exact kp_none
  | succ n ih =>
    intro a2 a3 M
    rw [l_X0_layFitting_13]
    refine kp_ite ?_ ?_
    ·
      exact kp_some_m (keeps.rf _ _)
    ·
      refine kp_ite ?_ ?_
      ·
        refine kp_let_v (fun v4 => ?_)
        refine kp_bind_m (kp_call fr_f_X0_keepAt (by first | rfl | (simp [kpSub]; done)) (keeps.rf _ _)) (fun r6 q1 => ?_)
        refine kp_let_v (fun v7 => ?_)
        exact kp_call (ih _ _ _) (by first | rfl | (simp [kpSub]; done)) q1
      ·
        exact kp_none
theorem fr_l_X0_layFitting_46 {o1a : Nat} : ∀ (n : Nat) (a3 : Int32) (M : am_M), kp [(103, some 0, none)] M id (l_X0_layFitting_46 o1a n a3 M) := by
  intro n
  induction n with
  | zero => intro a3 M; exact kp_none
  | succ n ih =>
    intro a3 M
    rw [l_X0_layFitting_46]
    refine kp_ite ?_ ?_
    ·
      exact kp_some_m (keeps.rf _ _)
    ·
      refine kp_ite ?_ ?_
      ·
        refine kp_ite ?_ ?_
        ·
          refine kp_ite ?_ ?_
          ·
            refine kp_bind_m (kp_call fr_f_X0_keepFact (by first | rfl | (simp [kpSub]; done)) (keeps.rf _ _)) (fun r16 q1 => ?_)
            refine kp_let_v (fun v17 => ?_)
            exact kp_call (ih _ _) (by first | rfl | (simp [kpSub]; done)) q1
          ·
            exact kp_none
        ·
          exact kp_none
      ·
        exact kp_none
theorem fr_f_X0_layFitting {M : am_M} {o1 : Nat} : kp [(0, some 0, some 0), (0, some 0, some 1), (103, some 0, none)] M id (f_X0_layFitting M o1) := by
  unfold f_X0_layFitting
  refine kp_bind_m (kp_call fr_f_X0_layHeaps (by first | rfl | (simp [kpSub]; done)) (keeps.rf _ _)) (fun r2 q1 => ?_)
  refine kp_bind_m (kp_call (fr_l_X0_layFitting_13 _ _ _ _) (by first | rfl | (simp [kpSub]; done)) q1) (fun z9 q2 => ?_)
  refine kp_bind_m (kp_call (fr_l_X0_layFitting_46 _ _ _) (by first | rfl | (simp [kpSub]; done)) q2) (fun z19 q3 => ?_)
  exact kp_some_m q3
theorem fr_l_X0_closeLevel_2 {a2 : Int32} : ∀ (n : Nat) (a3 : Int32) (M : am_M), kp [(103, some 0, none)] M id (l_X0_closeLevel_2 a2 n a3 M) := by
  intro n
  induction n with
  | zero => intro a3 M; exact kp_none
  | succ n ih =>
    intro a3 M
    rw [l_X0_closeLevel_2]
    refine kp_ite ?_ ?_
    ·
      exact kp_some_m (keeps.rf _ _)
    ·
      refine kp_ite ?_ ?_
      ·
        exact kp_some_m (keeps.rf _ _)
      ·
        refine kp_ite ?_ ?_
        ·
          refine kp_bind_v (fun r3 => ?_)
          refine kp_ite ?_ ?_
          ·
            refine kp_let_m (keeps.si (keeps.rf _ _) (by first | rfl | (simp [kpS]; done))) (fun M5 q1 => ?_)
            refine kp_let_v (fun v6 => ?_)
            exact kp_call (ih _ _) (by first | rfl | (simp [kpSub]; done)) q1
          ·
            exact kp_none
        ·
          exact kp_none
theorem fr_f_X0_closeLevel {M : am_M} {x1 : Int32} {x2 : Int32} : kp [(103, some 0, none)] M id (f_X0_closeLevel M x1 x2) := by
  unfold f_X0_closeLevel
  refine kp_bind_m (kp_call (fr_l_X0_closeLevel_2 _ _ _) (by first | rfl | (simp [kpSub]; done)) (keeps.rf _ _)) (fun z9 q1 => ?_)
  exact kp_some_m q1
theorem fr_l_X0_closeAhead_2 {a1 : Int32} : ∀ (n : Nat) (a2 : Int32) (M : am_M), kp [(103, some 0, none)] M id (l_X0_closeAhead_2 a1 n a2 M) := by
  intro n
  induction n with
  | zero => intro a2 M; exact kp_none
  | succ n ih =>
    intro a2 M
    rw [l_X0_closeAhead_2]
    refine kp_ite ?_ ?_
    ·
      exact kp_some_m (keeps.rf _ _)
    ·
      refine kp_ite ?_ ?_
      ·
        refine kp_bind_v (fun r3 => ?_)
        refine kp_ite ?_ ?_
        ·
          refine kp_let_m (keeps.si (keeps.rf _ _) (by first | rfl | (simp [kpS]; done))) (fun M5 q1 => ?_)
          refine kp_let_v (fun v6 => ?_)
          exact kp_call (ih _ _) (by first | rfl | (simp [kpSub]; done)) q1
        ·
          exact kp_none
      ·
        exact kp_none
theorem fr_f_X0_closeAhead {M : am_M} {x1 : Int32} : kp [(103, some 0, none)] M id (f_X0_closeAhead M x1) := by
  unfold f_X0_closeAhead
  refine kp_bind_m (kp_call (fr_l_X0_closeAhead_2 _ _ _) (by first | rfl | (simp [kpSub]; done)) (keeps.rf _ _)) (fun z8 q1 => ?_)
  exact kp_some_m q1
theorem fr_l_X0_keepAheadByTwos_2 {a1 : Int32} : ∀ (n : Nat) (a2 : Int32) (M : am_M), kp [(103, some 0, none)] M id (l_X0_keepAheadByTwos_2 a1 n a2 M) := by
  intro n
  induction n with
  | zero => intro a2 M; exact kp_none
  | succ n ih =>
    intro a2 M
    rw [l_X0_keepAheadByTwos_2]
    refine kp_ite ?_ ?_
    ·
      exact kp_some_m (keeps.rf _ _)
    ·
      refine kp_bind_m (kp_call fr_f_X0_keepAhead (by first | rfl | (simp [kpSub]; done)) (keeps.rf _ _)) (fun r2 q1 => ?_)
      refine kp_let_v (fun v3 => ?_)
      exact kp_call (ih _ _) (by first | rfl | (simp [kpSub]; done)) q1
theorem fr_f_X0_keepAheadByTwos {M : am_M} {x1 : Int32} : kp [(103, some 0, none)] M id (f_X0_keepAheadByTwos M x1) := by
  unfold f_X0_keepAheadByTwos
  refine kp_bind_m (kp_call (fr_l_X0_keepAheadByTwos_2 _ _ _) (by first | rfl | (simp [kpSub]; done)) (keeps.rf _ _)) (fun z5 q1 => ?_)
  refine kp_bind_m (kp_call fr_f_X0_keepAhead (by first | rfl | (simp [kpSub]; done)) q1) (fun r9 q2 => ?_)
  exact kp_some_m q2
theorem fr_l_X0_keepAheadFromBehind_2 {a1 : Int32} : ∀ (n : Nat) (a2 : Int32) (M : am_M), kp [(103, some 0, none)] M id (l_X0_keepAheadFromBehind_2 a1 n a2 M) := by
  intro n
  induction n with
  | zero => intro a2 M; exact kp_none
  | succ n ih =>
    intro a2 M
    rw [l_X0_keepAheadFromBehind_2]
    refine kp_ite ?_ ?_
    ·
      exact kp_some_m (keeps.rf _ _)
    ·
      refine kp_ite ?_ ?_
      ·
        refine kp_bind_v (fun r3 => ?_)
        refine kp_bind_v (fun r5 => ?_)
        refine kp_ite ?_ ?_
        ·
          refine kp_let_m (keeps.si (keeps.rf _ _) (by first | rfl | (simp [kpS]; done))) (fun M7 q1 => ?_)
          refine kp_let_v (fun v8 => ?_)
          exact kp_call (ih _ _) (by first | rfl | (simp [kpSub]; done)) q1
        ·
          exact kp_none
      ·
        exact kp_none
theorem fr_f_X0_keepAheadFromBehind {M : am_M} {x1 : Int32} : kp [(103, some 0, none)] M id (f_X0_keepAheadFromBehind M x1) := by
  unfold f_X0_keepAheadFromBehind
  refine kp_bind_m (kp_call (fr_l_X0_keepAheadFromBehind_2 _ _ _) (by first | rfl | (simp [kpSub]; done)) (keeps.rf _ _)) (fun z10 q1 => ?_)
  exact kp_some_m q1
theorem fr_l_X0_keepAheadUntilSure_2 {a1 : Int32} : ∀ (n : Nat) (a2 : Int32) (M : am_M), kp [(103, some 0, none)] M id (l_X0_keepAheadUntilSure_2 a1 n a2 M) := by
  intro n
  induction n with
  | zero => intro a2 M; exact kp_none
  | succ n ih =>
    intro a2 M
    rw [l_X0_keepAheadUntilSure_2]
    refine kp_ite ?_ ?_
    ·
      exact kp_some_m (keeps.rf _ _)
    ·
      refine kp_ite ?_ ?_
      ·
        refine kp_bind_v (fun r3 => ?_)
        refine kp_bind_v (fun r5 => ?_)
        refine kp_ite ?_ ?_
        ·
          refine kp_let_m (keeps.si (keeps.rf _ _) (by first | rfl | (simp [kpS]; done))) (fun M7 q1 => ?_)
          refine kp_let_v (fun v8 => ?_)
          exact kp_call (ih _ _) (by first | rfl | (simp [kpSub]; done)) q1
        ·
          exact kp_none
      ·
        exact kp_none
theorem fr_f_X0_keepAheadUntilSure {M : am_M} {x1 : Int32} : kp [(103, some 0, none)] M id (f_X0_keepAheadUntilSure M x1) := by
  unfold f_X0_keepAheadUntilSure
  refine kp_bind_m (kp_call (fr_l_X0_keepAheadUntilSure_2 _ _ _) (by first | rfl | (simp [kpSub]; done)) (keeps.rf _ _)) (fun z10 q1 => ?_)
  exact kp_some_m q1
theorem fr_l_X0_markAhead_2  : ∀ (n : Nat) (a1 : Int32) (M : am_M), kp [(104, some 0, none)] M id (l_X0_markAhead_2  n a1 M) := by
  intro n
  induction n with
  | zero => intro a1 M; exact kp_none
  | succ n ih =>
    intro a1 M
    rw [l_X0_markAhead_2]
    refine kp_ite ?_ ?_
    ·
      exact kp_some_m (keeps.rf _ _)
    ·
      refine kp_bind_v (fun r2 => ?_)
      refine kp_ite ?_ ?_
      ·
        refine kp_let_m (keeps.si (keeps.rf _ _) (by first | rfl | (simp [kpS]; done))) (fun M4 q1 => ?_)
        refine kp_let_v (fun v5 => ?_)
        exact kp_call (ih _ _) (by first | rfl | (simp [kpSub]; done)) q1
      ·
        exact kp_none
theorem fr_f_X0_markAhead {M : am_M} : kp [(104, some 0, none)] M id (f_X0_markAhead M) := by
  unfold f_X0_markAhead
  refine kp_bind_m (kp_call (fr_l_X0_markAhead_2 _ _ _) (by first | rfl | (simp [kpSub]; done)) (keeps.rf _ _)) (fun z7 q1 => ?_)
  exact kp_some_m q1
theorem fr_l_X0_markLevel_9  : ∀ (n : Nat) (a1 : Int32) (M : am_M), kp [(104, some 0, none)] M id (l_X0_markLevel_9  n a1 M) := by
  intro n
  induction n with
  | zero => intro a1 M; exact kp_none
  | succ n ih =>
    intro a1 M
    rw [l_X0_markLevel_9]
    refine kp_ite ?_ ?_
    ·
      exact kp_some_m (keeps.rf _ _)
    ·
      refine kp_bind_v (fun r3 => ?_)
      refine kp_ite ?_ ?_
      ·
        refine kp_let_m (keeps.si (keeps.rf _ _) (by first | rfl | (simp [kpS]; done))) (fun M5 q1 => ?_)
        refine kp_let_v (fun v6 => ?_)
        exact kp_call (ih _ _) (by first | rfl | (simp [kpSub]; done)) q1
      ·
        exact kp_none
theorem fr_f_X0_markLevel {M : am_M} : kp [(104, some 0, none)] M id (f_X0_markLevel M) := by
  unfold f_X0_markLevel
  refine kp_let_m (keeps.si (keeps.rf _ _) (by first | rfl | (simp [kpS]; done))) (fun M1 q1 => ?_)
  refine kp_bind_m (kp_call (fr_l_X0_markLevel_9 _ _ _) (by first | rfl | (simp [kpSub]; done)) q1) (fun z8 q2 => ?_)
  exact kp_some_m q2
theorem fr_l_X0_markUnsure_2  : ∀ (n : Nat) (a1 : Int32) (M : am_M), kp [(104, some 0, none)] M id (l_X0_markUnsure_2  n a1 M) := by
  intro n
  induction n with
  | zero => intro a1 M; exact kp_none
  | succ n ih =>
    intro a1 M
    rw [l_X0_markUnsure_2]
    refine kp_ite ?_ ?_
    ·
      exact kp_some_m (keeps.rf _ _)
    ·
      refine kp_bind_v (fun r2 => ?_)
      refine kp_ite ?_ ?_
      ·
        refine kp_let_m (keeps.si (keeps.rf _ _) (by first | rfl | (simp [kpS]; done))) (fun M4 q1 => ?_)
        refine kp_let_v (fun v5 => ?_)
        exact kp_call (ih _ _) (by first | rfl | (simp [kpSub]; done)) q1
      ·
        exact kp_none
theorem fr_f_X0_markUnsure {M : am_M} : kp [(104, some 0, none)] M id (f_X0_markUnsure M) := by
  unfold f_X0_markUnsure
  refine kp_bind_m (kp_call (fr_l_X0_markUnsure_2 _ _ _) (by first | rfl | (simp [kpSub]; done)) (keeps.rf _ _)) (fun z7 q1 => ?_)
  refine kp_ite ?_ ?_
  ·
    refine kp_let_m (keeps.si q1 (by first | rfl | (simp [kpS]; done))) (fun M11 q2 => ?_)
    exact kp_some_m q2
  ·
    exact kp_none
theorem fr_l_J7_fill_53178_5 {k0 : Nat} {p0 : Nat} {q0 : Nat} {n0 : Nat} {a1 : Int32} {a3 : Int32} : ∀ (n : Nat) (a2 : Int32) (M : am_M), kp [(k0, some p0, none)] M id (l_J7_fill_53178_5 k0 p0 q0 n0 a1 a3 n a2 M) := by
  intro n
  induction n with
  | zero => intro a2 M; exact kp_none
  | succ n ih =>
    intro a2 M
    rw [l_J7_fill_53178_5]
    refine kp_ite ?_ ?_
    ·
      exact kp_some_m (keeps.rf _ _)
    ·
      refine kp_ite ?_ ?_
      ·
        refine kp_let_m (keeps.si (keeps.rf _ _) (by first | rfl | (simp [kpS]; done))) (fun M3 q1 => ?_)
        refine kp_let_v (fun v4 => ?_)
        exact kp_call (ih _ _) (by first | rfl | (simp [kpSub]; done)) q1
      ·
        exact kp_none
theorem fr_f_J7_fill_53178 {M : am_M} {k0 : Nat} {p0 : Nat} {q0 : Nat} {n0 : Nat} {x1 : Int32} : kp [(k0, some p0, none)] M id (f_J7_fill_53178 M k0 p0 q0 n0 x1) := by
  unfold f_J7_fill_53178
  refine kp_let_v (fun v1 => ?_)
  refine kp_bind_m (kp_call (fr_l_J7_fill_53178_5 _ _ _) (by first | rfl | (simp [kpSub]; done)) (keeps.rf _ _)) (fun z6 q1 => ?_)
  exact kp_some_m q1
theorem fr_l_J7_fill_d0a16_6 {k0 : Nat} {p0 : Nat} {q0 : Nat} {n0 : Nat} {a1 : Int64} {a4 : Int32} : ∀ (n : Nat) (a3 : Int32) (M : am_M), kp [(k0, some p0, none)] M id (l_J7_fill_d0a16_6 k0 p0 q0 n0 a1 a4 n a3 M) := by
  intro n
  induction n with
  | zero => intro a3 M; exact kp_none
  | succ n ih =>
    intro a3 M
    rw [l_J7_fill_d0a16_6]
    refine kp_ite ?_ ?_
    ·
      exact kp_some_m (keeps.rf _ _)
    ·
      refine kp_ite ?_ ?_
      ·
        refine kp_let_m (keeps.sl (keeps.rf _ _) (by first | rfl | (simp [kpS]; done))) (fun M3 q1 => ?_)
        refine kp_let_v (fun v4 => ?_)
        exact kp_call (ih _ _) (by first | rfl | (simp [kpSub]; done)) q1
      ·
        exact kp_none
theorem fr_f_J7_fill_d0a16 {M : am_M} {k0 : Nat} {p0 : Nat} {q0 : Nat} {n0 : Nat} {x1 : Int64} : kp [(k0, some p0, none)] M id (f_J7_fill_d0a16 M k0 p0 q0 n0 x1) := by
  unfold f_J7_fill_d0a16
  refine kp_let_v (fun v1 => ?_)
  refine kp_bind_m (kp_call (fr_l_J7_fill_d0a16_6 _ _ _) (by first | rfl | (simp [kpSub]; done)) (keeps.rf _ _)) (fun z6 q1 => ?_)
  exact kp_some_m q1
theorem fr_f_X0_walkInto {M : am_M} {x1 : Int32} {x2 : Int32} : kp [(105, some 0, none), (106, some 0, none)] M id (f_X0_walkInto M x1 x2) := by
  unfold f_X0_walkInto
  refine kp_ite ?_ ?_
  ·
    refine kp_ite ?_ ?_
    ·
      refine kp_ite ?_ ?_
      ·
        refine kp_let_m (keeps.si (keeps.rf _ _) (by first | rfl | (simp [kpS]; done))) (fun M21 q1 => ?_)
        refine kp_ite ?_ ?_
        ·
          refine kp_let_m (keeps.sl q1 (by first | rfl | (simp [kpS]; done))) (fun M23 q2 => ?_)
          exact kp_some_m q2
        ·
          exact kp_none
      ·
        exact kp_none
    ·
      refine kp_bind_m ?_ (fun z2 q3 => ?_)
      ·
        refine kp_ite ?_ ?_
        ·
          exact kp_some_m (keeps.rf _ _)
        ·
          refine kp_ite ?_ ?_
          ·
            refine kp_ite ?_ ?_
            ·
              refine kp_ite ?_ ?_
              ·
                refine kp_let_m (keeps.si (keeps.rf _ _) (by first | rfl | (simp [kpS]; done))) (fun M8 q4 => ?_)
                refine kp_ite ?_ ?_
                ·
                  refine kp_ite ?_ ?_
                  ·
                    refine kp_ite ?_ ?_
                    ·
                      refine kp_let_m (keeps.sl q4 (by first | rfl | (simp [kpS]; done))) (fun M12 q5 => ?_)
                      exact kp_some_m q5
                    ·
                      exact kp_none
                  ·
                    exact kp_none
                ·
                  exact kp_none
              ·
                exact kp_none
            ·
              exact kp_none
          ·
            exact kp_none
      refine kp_ite ?_ ?_
      ·
        refine kp_ite ?_ ?_
        ·
          refine kp_ite ?_ ?_
          ·
            refine kp_ite ?_ ?_
            ·
              refine kp_ite ?_ ?_
              ·
                refine kp_let_m (keeps.sl q3 (by first | rfl | (simp [kpS]; done))) (fun M18 q6 => ?_)
                exact kp_some_m q6
              ·
                exact kp_none
            ·
              exact kp_none
          ·
            exact kp_none
        ·
          exact kp_some_m q3
      ·
        exact kp_none
  ·
    exact kp_none
theorem fr_l_X0_walk_80 {a1 : Int32} {a2 : Int32} : ∀ (n : Nat) (a3 : Int32) (M : am_M), kp [(105, some 0, none), (106, some 0, none)] M id (l_X0_walk_80 a1 a2 n a3 M) := by
  intro n
  induction n with
  | zero => intro a3 M; exact kp_none
  | succ n ih =>
    intro a3 M
    rw [l_X0_walk_80]
    refine kp_ite ?_ ?_
    ·
      exact kp_some_m (keeps.rf _ _)
    ·
      refine kp_bind_m ?_ (fun z10 q1 => ?_)
      ·
        refine kp_ite ?_ ?_
        ·
          refine kp_bind_m (kp_call fr_f_X0_walkInto (by first | rfl | (simp [kpSub]; done)) (keeps.rf _ _)) (fun r14 q2 => ?_)
          exact kp_some_m q2
        ·
          exact kp_some_m (keeps.rf _ _)
      refine kp_let_v (fun v16 => ?_)
      exact kp_call (ih _ _) (by first | rfl | (simp [kpSub]; done)) q1
theorem fr_l_X0_walk_54  : ∀ (n : Nat) (a1 : Int32) (M : am_M), kp [(105, some 0, none), (106, some 0, none)] M id (l_X0_walk_54  n a1 M) := by
  intro n
  induction n with
  | zero => intro a1 M; exact kp_none
  | succ n ih =>
    intro a1 M
    rw [l_X0_walk_54]
    refine kp_ite ?_ ?_
    ·
      exact kp_some_m (keeps.rf _ _)
    ·
      refine kp_ite ?_ ?_
      ·
        refine kp_ite ?_ ?_
        ·
          refine kp_let_v (fun v9 => ?_)
          refine kp_bind_m (kp_call (fr_l_X0_walk_80 _ _ _) (by first | rfl | (simp [kpSub]; done)) (keeps.rf _ _)) (fun z18 q1 => ?_)
          refine kp_let_v (fun v21 => ?_)
          exact kp_call (ih _ _) (by first | rfl | (simp [kpSub]; done)) q1
        ·
          exact kp_none
      ·
        exact kp_none
theorem fr_f_X0_walk {M : am_M} : kp [(105, some 0, none), (106, some 0, none)] M id (f_X0_walk M) := by
  unfold f_X0_walk
  refine kp_bind_m (kp_call fr_f_J7_fill_53178 (by first | rfl | (simp [kpSub]; done)) (keeps.rf _ _)) (fun r2 q1 => ?_)
  refine kp_bind_m (kp_call fr_f_J7_fill_d0a16 (by first | rfl | (simp [kpSub]; done)) q1) (fun r4 q2 => ?_)
  refine kp_let_m (keeps.si q2 (by first | rfl | (simp [kpS]; done))) (fun M5 q3 => ?_)
  refine kp_let_m (keeps.sl q3 (by first | rfl | (simp [kpS]; done))) (fun M6 q4 => ?_)
  refine kp_bind_m (kp_call (fr_l_X0_walk_54 _ _ _) (by first | rfl | (simp [kpSub]; done)) q4) (fun z23 q5 => ?_)
  exact kp_some_m q5
theorem fr_f_X0_countRows {M : am_M} : kp [(105, some 0, none), (106, some 0, none)] M Prod.snd (f_X0_countRows M) := by
  unfold f_X0_countRows
  refine kp_bind_m (kp_call fr_f_X0_walk (by first | rfl | (simp [kpSub]; done)) (keeps.rf _ _)) (fun r2 q1 => ?_)
  refine kp_ite ?_ ?_
  ·
    exact kp_some_p q1
  ·
    exact kp_none
theorem fr_f_X0_sumMarks {M : am_M} : kp [(105, some 0, none), (106, some 0, none)] M Prod.snd (f_X0_sumMarks M) := by
  unfold f_X0_sumMarks
  refine kp_bind_m (kp_call fr_f_X0_walk (by first | rfl | (simp [kpSub]; done)) (keeps.rf _ _)) (fun r2 q1 => ?_)
  refine kp_ite ?_ ?_
  ·
    exact kp_some_p q1
  ·
    exact kp_none
theorem fr_l_X0_tallyInto_42 {a2 : Int32} {a4 : Int32} {a5 : Int32} {a6 : Int32} : ∀ (n : Nat) (a7 : Int32) (M : am_M), kp [(107, some 0, none)] M id (l_X0_tallyInto_42 a2 a4 a5 a6 n a7 M) := by
  intro n
  induction n with
  | zero => intro a7 M; exact kp_none
  | succ n ih =>
    intro a7 M
    rw [l_X0_tallyInto_42]
    refine kp_ite ?_ ?_
    ·
      exact kp_some_m (keeps.rf _ _)
    ·
      refine kp_bind_v (fun z9 => ?_)
      refine kp_ite ?_ ?_
      ·
        refine kp_let_m (keeps.si (keeps.rf _ _) (by first | rfl | (simp [kpS]; done))) (fun M21 q1 => ?_)
        refine kp_bind_m ?_ (fun z22 q2 => ?_)
        ·
          refine kp_ite ?_ ?_
          ·
            exact kp_some_m q1
          ·
            refine kp_ite ?_ ?_
            ·
              refine kp_let_m (keeps.si q1 (by first | rfl | (simp [kpS]; done))) (fun M26 q3 => ?_)
              exact kp_some_m q3
            ·
              exact kp_none
        refine kp_let_v (fun v28 => ?_)
        exact kp_call (ih _ _) (by first | rfl | (simp [kpSub]; done)) q2
      ·
        exact kp_none
theorem fr_f_X0_tallyInto {M : am_M} {x1 : Int32} {x2 : Int32} {x3 : Int32} : kp [(107, some 0, none)] M id (f_X0_tallyInto M x1 x2 x3) := by
  unfold f_X0_tallyInto
  refine kp_let_v (fun v1 => ?_)
  refine kp_ite ?_ ?_
  ·
    refine kp_bind_v (fun z3 => ?_)
    refine kp_ite ?_ ?_
    ·
      refine kp_let_v (fun v8 => ?_)
      refine kp_bind_m (kp_call (fr_l_X0_tallyInto_42 _ _ _) (by first | rfl | (simp [kpSub]; done)) (keeps.rf _ _)) (fun z30 q1 => ?_)
      exact kp_some_m q1
    ·
      exact kp_none
  ·
    exact kp_none
theorem fr_l_X0_tallyMarks_60 {a1 : Int32} {a2 : Int32} {a3 : Int32} : ∀ (n : Nat) (a4 : Int32) (M : am_M), kp [(107, some 0, none)] M id (l_X0_tallyMarks_60 a1 a2 a3 n a4 M) := by
  intro n
  induction n with
  | zero => intro a4 M; exact kp_none
  | succ n ih =>
    intro a4 M
    rw [l_X0_tallyMarks_60]
    refine kp_ite ?_ ?_
    ·
      exact kp_some_m (keeps.rf _ _)
    ·
      refine kp_bind_m ?_ (fun z9 q1 => ?_)
      ·
        refine kp_ite ?_ ?_
        ·
          refine kp_bind_m (kp_call fr_f_X0_tallyInto (by first | rfl | (simp [kpSub]; done)) (keeps.rf _ _)) (fun r13 q2 => ?_)
          exact kp_some_m q2
        ·
          exact kp_some_m (keeps.rf _ _)
      refine kp_let_v (fun v15 => ?_)
      exact kp_call (ih _ _) (by first | rfl | (simp [kpSub]; done)) q1
theorem fr_l_X0_tallyMarks_33  : ∀ (n : Nat) (a1 : Int32) (a2 : Int32) (M : am_M), kp [(107, some 0, none)] M id (l_X0_tallyMarks_33  n a1 a2 M) := by
  intro n
  induction n with
  | zero => intro a1 a2 M; exact kp_none
  | succ n ih =>
    intro a1 a2 M
    rw [l_X0_tallyMarks_33]
    refine kp_ite ?_ ?_
    ·
      exact kp_some_m (keeps.rf _ _)
    ·
      refine kp_ite ?_ ?_
      ·
        refine kp_ite ?_ ?_
        ·
          refine kp_let_v (fun v8 => ?_)
          refine kp_bind_m (kp_call (fr_l_X0_tallyMarks_60 _ _ _) (by first | rfl | (simp [kpSub]; done)) (keeps.rf _ _)) (fun z17 q1 => ?_)
          refine kp_ite ?_ ?_
          ·
            refine kp_bind_v (fun z21 => ?_)
            refine kp_let_v (fun v26 => ?_)
            refine kp_let_v (fun v27 => ?_)
            exact kp_call (ih _ _ _) (by first | rfl | (simp [kpSub]; done)) q1
          ·
            exact kp_none
        ·
          exact kp_none
      ·
        exact kp_none
theorem fr_f_X0_tallyMarks {M : am_M} : kp [(102, some 0, none), (107, some 0, none)] M id (f_X0_tallyMarks M) := by
  unfold f_X0_tallyMarks
  refine kp_bind_m (kp_call fr_f_J7_fill_53178 (by first | rfl | (simp [kpSub]; done)) (keeps.rf _ _)) (fun r2 q1 => ?_)
  refine kp_let_v (fun v3 => ?_)
  refine kp_ite ?_ ?_
  ·
    refine kp_let_m (keeps.si q1 (by first | rfl | (simp [kpS]; done))) (fun M5 q2 => ?_)
    refine kp_bind_m (kp_call (fr_l_X0_tallyMarks_33 _ _ _ _) (by first | rfl | (simp [kpSub]; done)) q2) (fun z29 q3 => ?_)
    refine kp_ite ?_ ?_
    ·
      refine kp_let_m (keeps.ri q3 (fun _ => (by first | rfl | (simp [kpS]; done)))) (fun M33 q4 => ?_)
      exact kp_some_m q4
    ·
      exact kp_none
  ·
    exact kp_none
theorem fr_f_X1_layIn {M : am_M} {o : Nat} {x1 : Int32} {x2 : Int32} : kp [(1, some o, some 0), (1, some o, some 1), (1, some o, some 2), (203, some o, none), (204, some o, none), (205, some o, none)] M Prod.snd (f_X1_layIn M o x1 x2) := by
  unfold f_X1_layIn
  refine kp_let_v (fun v1 => ?_)
  refine kp_ite ?_ ?_
  ·
    exact kp_some_p (keeps.rf _ _)
  ·
    refine kp_ite ?_ ?_
    ·
      refine kp_let_m (keeps.si (keeps.rf _ _) (by first | rfl | (simp [kpS]; done))) (fun M3 q1 => ?_)
      refine kp_ite ?_ ?_
      ·
        refine kp_let_m (keeps.si q1 (by first | rfl | (simp [kpS]; done))) (fun M5 q2 => ?_)
        refine kp_ite ?_ ?_
        ·
          refine kp_let_m (keeps.si q2 (by first | rfl | (simp [kpS]; done))) (fun M7 q3 => ?_)
          refine kp_let_m (keeps.si q3 (by first | rfl | (simp [kpS]; done))) (fun M8 q4 => ?_)
          refine kp_let_m (keeps.si q4 (by first | rfl | (simp [kpS]; done))) (fun M9 q5 => ?_)
          refine kp_let_m (keeps.si q5 (by first | rfl | (simp [kpS]; done))) (fun M10 q6 => ?_)
          exact kp_some_p q6
        ·
          exact kp_none
      ·
        exact kp_none
    ·
      exact kp_none
theorem fr_f_X1_remember {M : am_M} {o : Nat} {x1 : Int32} {x2 : Int32} {x3 : Int32} : kp [(1, some o, some 9), (210, some o, none), (211, some o, none), (212, some o, none)] M Prod.snd (f_X1_remember M o x1 x2 x3) := by
  unfold f_X1_remember
  refine kp_let_v (fun v1 => ?_)
  refine kp_ite ?_ ?_
  ·
    exact kp_some_p (keeps.rf _ _)
  ·
    refine kp_ite ?_ ?_
    ·
      refine kp_let_m (keeps.si (keeps.rf _ _) (by first | rfl | (simp [kpS]; done))) (fun M3 q1 => ?_)
      refine kp_ite ?_ ?_
      ·
        refine kp_let_m (keeps.si q1 (by first | rfl | (simp [kpS]; done))) (fun M5 q2 => ?_)
        refine kp_ite ?_ ?_
        ·
          refine kp_let_m (keeps.si q2 (by first | rfl | (simp [kpS]; done))) (fun M7 q3 => ?_)
          refine kp_let_m (keeps.si q3 (by first | rfl | (simp [kpS]; done))) (fun M8 q4 => ?_)
          exact kp_some_p q4
        ·
          exact kp_none
      ·
        exact kp_none
    ·
      exact kp_none
theorem fr_l_X1_dropFact_2 {o0a : Nat} : ∀ (n : Nat) (a2 : Int32) (M : am_M), kp [(210, some o0a, none), (211, some o0a, none), (212, some o0a, none)] M id (l_X1_dropFact_2 o0a n a2 M) := by
  intro n
  induction n with
  | zero => intro a2 M; exact kp_none
  | succ n ih =>
    intro a2 M
    rw [l_X1_dropFact_2]
    refine kp_ite ?_ ?_
    ·
      exact kp_some_m (keeps.rf _ _)
    ·
      refine kp_ite ?_ ?_
      ·
        refine kp_ite ?_ ?_
        ·
          refine kp_let_m (keeps.si (keeps.rf _ _) (by first | rfl | (simp [kpS]; done))) (fun M3 q1 => ?_)
          refine kp_ite ?_ ?_
          ·
            refine kp_ite ?_ ?_
            ·
              refine kp_let_m (keeps.si q1 (by first | rfl | (simp [kpS]; done))) (fun M6 q2 => ?_)
              refine kp_ite ?_ ?_
              ·
                refine kp_ite ?_ ?_
                ·
                  refine kp_let_m (keeps.si q2 (by first | rfl | (simp [kpS]; done))) (fun M9 q3 => ?_)
                  refine kp_let_v (fun v10 => ?_)
                  exact kp_call (ih _ _) (by first | rfl | (simp [kpSub]; done)) q3
                ·
                  exact kp_none
              ·
                exact kp_none
            ·
              exact kp_none
          ·
            exact kp_none
        ·
          exact kp_none
      ·
        exact kp_none
theorem fr_f_X1_dropFact {M : am_M} {o : Nat} {x1 : Int32} : kp [(1, some o, some 9), (210, some o, none), (211, some o, none), (212, some o, none)] M Prod.snd (f_X1_dropFact M o x1) := by
  unfold f_X1_dropFact
  refine kp_bind_m (kp_call (fr_l_X1_dropFact_2 _ _ _) (by first | rfl | (simp [kpSub]; done)) (keeps.rf _ _)) (fun z12 q1 => ?_)
  refine kp_let_m (keeps.si q1 (by first | rfl | (simp [kpS]; done))) (fun M15 q2 => ?_)
  exact kp_some_p q2
theorem fr_f_X1_exchange {M : am_M} {o : Nat} {x1 : Int32} {x2 : Int32} : kp [(205, some o, none)] M id (f_X1_exchange M o x1 x2) := by
  unfold f_X1_exchange
  refine kp_ite ?_ ?_
  ·
    refine kp_let_v (fun v2 => ?_)
    refine kp_ite ?_ ?_
    ·
      refine kp_ite ?_ ?_
      ·
        refine kp_let_m (keeps.si (keeps.rf _ _) (by first | rfl | (simp [kpS]; done))) (fun M5 q1 => ?_)
        refine kp_ite ?_ ?_
        ·
          refine kp_let_m (keeps.si q1 (by first | rfl | (simp [kpS]; done))) (fun M7 q2 => ?_)
          exact kp_some_m q2
        ·
          exact kp_none
      ·
        exact kp_none
    ·
      exact kp_none
  ·
    exact kp_none
theorem fr_f_X1_take {M : am_M} {o : Nat} {x1 : Int32} : kp [(1, some o, some 6), (1, some o, some 7), (208, some o, none)] M Prod.snd (f_X1_take M o x1) := by
  unfold f_X1_take
  refine kp_ite ?_ ?_
  ·
    exact kp_some_p (keeps.rf _ _)
  ·
    refine kp_bind_v (fun r2 => ?_)
    refine kp_ite ?_ ?_
    ·
      refine kp_bind_v (fun z3 => ?_)
      refine kp_ite ?_ ?_
      ·
        refine kp_let_m (keeps.si (keeps.rf _ _) (by first | rfl | (simp [kpS]; done))) (fun M8 q1 => ?_)
        refine kp_ite ?_ ?_
        ·
          refine kp_let_m (keeps.si q1 (by first | rfl | (simp [kpS]; done))) (fun M9 q2 => ?_)
          refine kp_let_m (keeps.si q2 (by first | rfl | (simp [kpS]; done))) (fun M10 q3 => ?_)
          exact kp_some_p q3
        ·
          refine kp_let_m (keeps.si q1 (by first | rfl | (simp [kpS]; done))) (fun M11 q4 => ?_)
          refine kp_let_m (keeps.si q4 (by first | rfl | (simp [kpS]; done))) (fun M12 q5 => ?_)
          exact kp_some_p q5
      ·
        exact kp_none
    ·
      exact kp_some_p (keeps.rf _ _)
theorem fr_f_X1_drawBelow {M : am_M} {o : Nat} {x1 : Int32} : kp [(1, some o, some 13)] M Prod.snd (f_X1_drawBelow M o x1) := by
  unfold f_X1_drawBelow
  refine kp_ite ?_ ?_
  ·
    refine kp_let_m (keeps.si (keeps.rf _ _) (by first | rfl | (simp [kpS]; done))) (fun M1 q1 => ?_)
    refine kp_ite ?_ ?_
    ·
      exact kp_some_p q1
    ·
      exact kp_none
  ·
    exact kp_some_p (keeps.rf _ _)
theorem fr_f_X1_takeByDraw {M : am_M} {o : Nat} : kp [(1, some o, some 6), (1, some o, some 7), (1, some o, some 13), (208, some o, none)] M Prod.snd (f_X1_takeByDraw M o) := by
  unfold f_X1_takeByDraw
  refine kp_bind_v (fun r2 => ?_)
  refine kp_bind_v (fun r4 => ?_)
  refine kp_bind_p (kp_call fr_f_X1_drawBelow (by first | rfl | (simp [kpSub]; done)) (keeps.rf _ _)) (fun r6 q1 => ?_)
  refine kp_bind_v (fun z7 => ?_)
  refine kp_bind_p (kp_call fr_f_X1_take (by first | rfl | (simp [kpSub]; done)) q1) (fun r12 q2 => ?_)
  refine kp_ite ?_ ?_
  ·
    exact kp_some_p q2
  ·
    exact kp_some_p q2
theorem fr_f_X1_layBack {M : am_M} {o : Nat} : kp [(1, some o, some 6), (1, some o, some 7)] M id (f_X1_layBack M o) := by
  unfold f_X1_layBack
  refine kp_let_m (keeps.si (keeps.rf _ _) (by first | rfl | (simp [kpS]; done))) (fun M1 q1 => ?_)
  refine kp_let_m (keeps.si q1 (by first | rfl | (simp [kpS]; done))) (fun M2 q2 => ?_)
  exact kp_some_m q2
theorem fr_f_X1_takeOver {M : am_M} {o : Nat} {o1 : Nat} : kp [(1, some o, some 0), (1, some o, some 1), (1, some o, some 2), (1, some o, some 6), (1, some o, some 7), (1, some o, some 9), (1, some o, some 13), (203, some o, none), (204, some o, none), (205, some o, none), (208, some o, none), (210, some o, none), (211, some o, none), (212, some o, none)] M id (f_X1_takeOver M o o1) := by
  unfold f_X1_takeOver
  refine kp_let_m (keeps.si (keeps.rf _ _) (by first | rfl | (simp [kpS]; done))) (fun M1 q1 => ?_)
  refine kp_let_m (keeps.si q1 (by first | rfl | (simp [kpS]; done))) (fun M2 q2 => ?_)
  refine kp_let_m (keeps.si q2 (by first | rfl | (simp [kpS]; done))) (fun M3 q3 => ?_)
  refine kp_let_m (keeps.si q3 (by first | rfl | (simp [kpS]; done))) (fun M4 q4 => ?_)
  refine kp_let_m (keeps.si q4 (by first | rfl | (simp [kpS]; done))) (fun M5 q5 => ?_)
  refine kp_let_m (keeps.si q5 (by first | rfl | (simp [kpS]; done))) (fun M6 q6 => ?_)
  refine kp_let_m (keeps.si q6 (by first | rfl | (simp [kpS]; done))) (fun M7 q7 => ?_)
  refine kp_ite ?_ ?_
  ·
    refine kp_let_m (keeps.ri q7 (fun _ => (by first | rfl | (simp [kpS]; done)))) (fun M9 q8 => ?_)
    refine kp_ite ?_ ?_
    ·
      refine kp_let_m (keeps.ri q8 (fun _ => (by first | rfl | (simp [kpS]; done)))) (fun M11 q9 => ?_)
      refine kp_ite ?_ ?_
      ·
        refine kp_let_m (keeps.ri q9 (fun _ => (by first | rfl | (simp [kpS]; done)))) (fun M13 q10 => ?_)
        refine kp_ite ?_ ?_
        ·
          refine kp_let_m (keeps.ri q10 (fun _ => (by first | rfl | (simp [kpS]; done)))) (fun M15 q11 => ?_)
          refine kp_ite ?_ ?_
          ·
            refine kp_let_m (keeps.ri q11 (fun _ => (by first | rfl | (simp [kpS]; done)))) (fun M17 q12 => ?_)
            refine kp_ite ?_ ?_
            ·
              refine kp_let_m (keeps.ri q12 (fun _ => (by first | rfl | (simp [kpS]; done)))) (fun M19 q13 => ?_)
              refine kp_ite ?_ ?_
              ·
                refine kp_let_m (keeps.ri q13 (fun _ => (by first | rfl | (simp [kpS]; done)))) (fun M21 q14 => ?_)
                exact kp_some_m q14
              ·
                exact kp_none
            ·
              exact kp_none
          ·
            exact kp_none
        ·
          exact kp_none
      ·
        exact kp_none
    ·
      exact kp_none
  ·
    exact kp_none
theorem fr_f_X2_becomeRow {M : am_M} {o : Nat} {x1 : Int32} {x2 : Int32} : kp [(2, some o, some 0), (2, some o, some 1), (303, some o, none)] M id (f_X2_becomeRow M o x1 x2) := by
  unfold f_X2_becomeRow
  refine kp_let_m (keeps.si (keeps.rf _ _) (by first | rfl | (simp [kpS]; done))) (fun M1 q1 => ?_)
  refine kp_let_m (keeps.si q1 (by first | rfl | (simp [kpS]; done))) (fun M2 q2 => ?_)
  refine kp_bind_m (kp_call fr_f_J7_fill_d0a16 (by first | rfl | (simp [kpSub]; done)) q2) (fun r4 q3 => ?_)
  exact kp_some_m q3
theorem fr_f_X2_becomeDrawing {M : am_M} {o : Nat} {x1 : Int32} {x2 : Int32} : kp [(2, some o, some 0), (2, some o, some 1), (2, some o, some 2)] M id (f_X2_becomeDrawing M o x1 x2) := by
  unfold f_X2_becomeDrawing
  refine kp_let_m (keeps.si (keeps.rf _ _) (by first | rfl | (simp [kpS]; done))) (fun M1 q1 => ?_)
  refine kp_let_m (keeps.si q1 (by first | rfl | (simp [kpS]; done))) (fun M2 q2 => ?_)
  refine kp_let_m (keeps.si q2 (by first | rfl | (simp [kpS]; done))) (fun M3 q3 => ?_)
  exact kp_some_m q3
theorem fr_f_X2_put {M : am_M} {o : Nat} {x1 : Int32} {x2 : Int64} : kp [(303, some o, none)] M id (f_X2_put M o x1 x2) := by
  unfold f_X2_put
  refine kp_ite ?_ ?_
  ·
    refine kp_ite ?_ ?_
    ·
      refine kp_let_m (keeps.sl (keeps.rf _ _) (by first | rfl | (simp [kpS]; done))) (fun M3 q1 => ?_)
      exact kp_some_m q1
    ·
      exact kp_none
  ·
    refine kp_ite ?_ ?_
    ·
      refine kp_ite ?_ ?_
      ·
        refine kp_let_m (keeps.sl (keeps.rf _ _) (by first | rfl | (simp [kpS]; done))) (fun M6 q2 => ?_)
        exact kp_some_m q2
      ·
        exact kp_none
    ·
      refine kp_ite ?_ ?_
      ·
        refine kp_ite ?_ ?_
        ·
          refine kp_let_m (keeps.sl (keeps.rf _ _) (by first | rfl | (simp [kpS]; done))) (fun M9 q3 => ?_)
          exact kp_some_m q3
        ·
          exact kp_none
      ·
        refine kp_ite ?_ ?_
        ·
          refine kp_ite ?_ ?_
          ·
            refine kp_let_m (keeps.sl (keeps.rf _ _) (by first | rfl | (simp [kpS]; done))) (fun M12 q4 => ?_)
            exact kp_some_m q4
          ·
            exact kp_none
        ·
          refine kp_ite ?_ ?_
          ·
            refine kp_ite ?_ ?_
            ·
              refine kp_ite ?_ ?_
              ·
                refine kp_let_m (keeps.sl (keeps.rf _ _) (by first | rfl | (simp [kpS]; done))) (fun M15 q5 => ?_)
                exact kp_some_m q5
              ·
                exact kp_none
            ·
              refine kp_ite ?_ ?_
              ·
                refine kp_let_m (keeps.sl (keeps.rf _ _) (by first | rfl | (simp [kpS]; done))) (fun M17 q6 => ?_)
                exact kp_some_m q6
              ·
                exact kp_none
          ·
            refine kp_ite ?_ ?_
            ·
              refine kp_let_m (keeps.sl (keeps.rf _ _) (by first | rfl | (simp [kpS]; done))) (fun M20 q7 => ?_)
              exact kp_some_m q7
            ·
              exact kp_none
theorem fr_f_X3_append {M : am_M} {x1 : Int32} : kp [(3, some 0, some 0), (402, some 0, none)] M Prod.snd (f_X3_append M x1) := by
  unfold f_X3_append
  refine kp_ite ?_ ?_
  ·
    exact kp_some_p (keeps.rf _ _)
  ·
    refine kp_ite ?_ ?_
    ·
      refine kp_let_m (keeps.si (keeps.rf _ _) (by first | rfl | (simp [kpS]; done))) (fun M2 q1 => ?_)
      refine kp_let_m (keeps.si q1 (by first | rfl | (simp [kpS]; done))) (fun M3 q2 => ?_)
      exact kp_some_p q2
    ·
      exact kp_none
theorem fr_l_X3_nextToken_8  : ∀ (n : Nat) (M : am_M), kp [(3, some 0, some 1)] M id (l_X3_nextToken_8  n M) := by
  intro n
  induction n with
  | zero => intro M; exact kp_none
  | succ n ih =>
    intro M
    rw [l_X3_nextToken_8]
    refine kp_ite ?_ ?_
    ·
      exact kp_some_m (keeps.rf _ _)
    ·
      refine kp_ite ?_ ?_
      ·
        refine kp_ite ?_ ?_
        ·
          refine kp_let_m (keeps.si (keeps.rf _ _) (by first | rfl | (simp [kpS]; done))) (fun M3 q1 => ?_)
          exact kp_call (ih _) (by first | rfl | (simp [kpSub]; done)) q1
        ·
          exact kp_some_m (keeps.rf _ _)
      ·
        exact kp_none
theorem fr_l_X3_nextToken_94  : ∀ (n : Nat) (M : am_M), kp [(3, some 0, some 3)] M id (l_X3_nextToken_94  n M) := by
  intro n
  induction n with
  | zero => intro M; exact kp_none
  | succ n ih =>
    intro M
    rw [l_X3_nextToken_94]
    refine kp_ite ?_ ?_
    ·
      refine kp_ite ?_ ?_
      ·
        exact kp_some_m (keeps.rf _ _)
      ·
        refine kp_ite ?_ ?_
        ·
          refine kp_bind_v (fun r20 => ?_)
          refine kp_ite ?_ ?_
          ·
            refine kp_let_m (keeps.si (keeps.rf _ _) (by first | rfl | (simp [kpS]; done))) (fun M21 q1 => ?_)
            exact kp_call (ih _) (by first | rfl | (simp [kpSub]; done)) q1
          ·
            exact kp_some_m (keeps.rf _ _)
        ·
          exact kp_none
    ·
      refine kp_ite ?_ ?_
      ·
        refine kp_ite ?_ ?_
        ·
          exact kp_some_m (keeps.rf _ _)
        ·
          refine kp_ite ?_ ?_
          ·
            refine kp_bind_v (fun r26 => ?_)
            refine kp_ite ?_ ?_
            ·
              refine kp_let_m (keeps.si (keeps.rf _ _) (by first | rfl | (simp [kpS]; done))) (fun M27 q2 => ?_)
              exact kp_call (ih _) (by first | rfl | (simp [kpSub]; done)) q2
            ·
              exact kp_some_m (keeps.rf _ _)
          ·
            exact kp_none
      ·
        exact kp_some_m (keeps.rf _ _)
theorem fr_f_X3_nextToken {M : am_M} : kp [(3, some 0, some 1), (3, some 0, some 3), (3, some 0, some 4)] M id (f_X3_nextToken M) := by
  unfold f_X3_nextToken
  refine kp_let_m (keeps.si (keeps.rf _ _) (by first | rfl | (simp [kpS]; done))) (fun M1 q1 => ?_)
  refine kp_bind_m (kp_call (fr_l_X3_nextToken_8 _ _) (by first | rfl | (simp [kpSub]; done)) q1) (fun z6 q2 => ?_)
  refine kp_bind_v (fun z9 => ?_)
  refine kp_let_m (keeps.si q2 (by first | rfl | (simp [kpS]; done))) (fun M16 q3 => ?_)
  refine kp_let_m (keeps.si q3 (by first | rfl | (simp [kpS]; done))) (fun M17 q4 => ?_)
  refine kp_bind_m (kp_call (fr_l_X3_nextToken_94 _ _) (by first | rfl | (simp [kpSub]; done)) q4) (fun z32 q5 => ?_)
  exact kp_some_m q5
theorem fr_l_X3_isNumberNext_37 {a1 : Int32} : ∀ (n : Nat) (a2 : Int32) (M : am_M), kp [(3, some 0, some 5)] M id (l_X3_isNumberNext_37 a1 n a2 M) := by
  intro n
  induction n with
  | zero => intro a2 M; exact kp_none
  | succ n ih =>
    intro a2 M
    rw [l_X3_isNumberNext_37]
    refine kp_ite ?_ ?_
    ·
      exact kp_some_m (keeps.rf _ _)
    ·
      refine kp_ite ?_ ?_
      ·
        refine kp_let_m (keeps.si (keeps.rf _ _) (by first | rfl | (simp [kpS]; done))) (fun M6 q1 => ?_)
        refine kp_let_v (fun v7 => ?_)
        exact kp_call (ih _ _) (by first | rfl | (simp [kpSub]; done)) q1
      ·
        exact kp_none
theorem fr_f_X3_isNumberNext {M : am_M} {x1 : Int32} : kp [(3, some 0, some 1), (3, some 0, some 3), (3, some 0, some 4), (3, some 0, some 5)] M Prod.snd (f_X3_isNumberNext M x1) := by
  unfold f_X3_isNumberNext
  refine kp_bind_m (kp_call fr_f_X3_nextToken (by first | rfl | (simp [kpSub]; done)) (keeps.rf _ _)) (fun r2 q1 => ?_)
  refine kp_ite ?_ ?_
  ·
    refine kp_ite ?_ ?_
    ·
      refine kp_let_m (keeps.si q1 (by first | rfl | (simp [kpS]; done))) (fun M3 q2 => ?_)
      refine kp_let_v (fun v4 => ?_)
      refine kp_bind_m (kp_call (fr_l_X3_isNumberNext_37 _ _ _) (by first | rfl | (simp [kpSub]; done)) q2) (fun z9 q3 => ?_)
      refine kp_ite ?_ ?_
      ·
        exact kp_some_p q3
      ·
        exact kp_some_p q3
    ·
      exact kp_some_p q1
  ·
    exact kp_some_p q1
theorem fr_f_X3_factStatement {M : am_M} {o1 : Nat} : kp [(1, some o1, some 9), (3, some 0, some 1), (3, some 0, some 3), (3, some 0, some 4), (3, some 0, some 5), (210, some o1, none), (211, some o1, none), (212, some o1, none)] M Prod.snd (f_X3_factStatement M o1) := by
  unfold f_X3_factStatement
  refine kp_ite ?_ ?_
  ·
    exact kp_some_p (keeps.rf _ _)
  ·
    refine kp_bind_p (kp_call fr_f_X3_isNumberNext (by first | rfl | (simp [kpSub]; done)) (keeps.rf _ _)) (fun r2 q1 => ?_)
    refine kp_ite ?_ ?_
    ·
      exact kp_some_p q1
    ·
      refine kp_let_v (fun v3 => ?_)
      refine kp_bind_p (kp_call fr_f_X3_isNumberNext (by first | rfl | (simp [kpSub]; done)) q1) (fun r5 q2 => ?_)
      refine kp_ite ?_ ?_
      ·
        exact kp_some_p q2
      ·
        refine kp_let_v (fun v6 => ?_)
        refine kp_bind_p (kp_call fr_f_X3_isNumberNext (by first | rfl | (simp [kpSub]; done)) q2) (fun r8 q3 => ?_)
        refine kp_ite ?_ ?_
        ·
          exact kp_some_p q3
        ·
          refine kp_bind_p (kp_call fr_f_X1_remember (by first | rfl | (simp [kpSub]; done)) q3) (fun r10 q4 => ?_)
          exact kp_some_p q4
theorem fr_f_X3_heapStatement {M : am_M} {o1 : Nat} : kp [(1, some o1, some 0), (1, some o1, some 1), (1, some o1, some 2), (3, some 0, some 1), (3, some 0, some 3), (3, some 0, some 4), (3, some 0, some 5), (203, some o1, none), (204, some o1, none), (205, some o1, none)] M Prod.snd (f_X3_heapStatement M o1) := by
  unfold f_X3_heapStatement
  refine kp_ite ?_ ?_
  ·
    exact kp_some_p (keeps.rf _ _)
  ·
    refine kp_ite ?_ ?_
    ·
      exact kp_some_p (keeps.rf _ _)
    ·
      refine kp_bind_p (kp_call fr_f_X3_isNumberNext (by first | rfl | (simp [kpSub]; done)) (keeps.rf _ _)) (fun r2 q1 => ?_)
      refine kp_ite ?_ ?_
      ·
        exact kp_some_p q1
      ·
        refine kp_let_v (fun v3 => ?_)
        refine kp_bind_p (kp_call fr_f_X3_isNumberNext (by first | rfl | (simp [kpSub]; done)) q1) (fun r5 q2 => ?_)
        refine kp_ite ?_ ?_
        ·
          exact kp_some_p q2
        ·
          refine kp_ite ?_ ?_
          ·
            exact kp_some_p q2
          ·
            refine kp_bind_v (fun r7 => ?_)
            refine kp_ite ?_ ?_
            ·
              exact kp_some_p q2
            ·
              refine kp_bind_p (kp_call fr_f_X1_layIn (by first | rfl | (simp [kpSub]; done)) q2) (fun r9 q3 => ?_)
              exact kp_some_p q3
theorem fr_l_X3_readStatement_19 {o1a : Nat} : ∀ (n : Nat) (a2 : Int32) (M : am_M), kp [(1, some o1a, some 6), (1, some o1a, some 7), (208, some o1a, none)] M Prod.snd (l_X3_readStatement_19 o1a n a2 M) := by
  intro n
  induction n with
  | zero => intro a2 M; exact kp_none
  | succ n ih =>
    intro a2 M
    rw [l_X3_readStatement_19]
    refine kp_ite ?_ ?_
    ·
      exact kp_some_p (keeps.rf _ _)
    ·
      refine kp_ite ?_ ?_
      ·
        refine kp_ite ?_ ?_
        ·
          refine kp_ite ?_ ?_
          ·
            refine kp_bind_v (fun z6 => ?_)
            refine kp_bind_p (kp_call fr_f_X1_take (by first | rfl | (simp [kpSub]; done)) (keeps.rf _ _)) (fun r11 q1 => ?_)
            refine kp_ite ?_ ?_
            ·
              exact kp_some_p q1
            ·
              refine kp_let_v (fun v12 => ?_)
              exact kp_call (ih _ _) (by first | rfl | (simp [kpSub]; done)) q1
          ·
            exact kp_none
        ·
          refine kp_ite ?_ ?_
          ·
            refine kp_ite ?_ ?_
            ·
              refine kp_ite ?_ ?_
              ·
                refine kp_bind_v (fun z16 => ?_)
                refine kp_bind_p (kp_call fr_f_X1_take (by first | rfl | (simp [kpSub]; done)) (keeps.rf _ _)) (fun r21 q2 => ?_)
                refine kp_ite ?_ ?_
                ·
                  exact kp_some_p q2
                ·
                  refine kp_let_v (fun v22 => ?_)
                  exact kp_call (ih _ _) (by first | rfl | (simp [kpSub]; done)) q2
              ·
                exact kp_none
            ·
              exact kp_some_p (keeps.rf _ _)
          ·
            exact kp_none
      ·
        exact kp_none
theorem fr_f_X3_readStatement {M : am_M} {o1 : Nat} : kp [(1, some o1, some 6), (1, some o1, some 7), (3, some 0, some 1), (3, some 0, some 3), (3, some 0, some 4), (208, some o1, none)] M Prod.snd (f_X3_readStatement M o1) := by
  unfold f_X3_readStatement
  refine kp_bind_m (kp_call fr_f_X3_nextToken (by first | rfl | (simp [kpSub]; done)) (keeps.rf _ _)) (fun r2 q1 => ?_)
  refine kp_ite ?_ ?_
  ·
    refine kp_let_v (fun v3 => ?_)
    exact kp_call (fr_l_X3_readStatement_19 _ _ _) (by first | rfl | (simp [kpSub]; done)) q1
  ·
    exact kp_some_p q1
theorem fr_f_X3_swapStatement {M : am_M} {o1 : Nat} : kp [(3, some 0, some 1), (3, some 0, some 3), (3, some 0, some 4), (3, some 0, some 5), (205, some o1, none)] M Prod.snd (f_X3_swapStatement M o1) := by
  unfold f_X3_swapStatement
  refine kp_ite ?_ ?_
  ·
    exact kp_some_p (keeps.rf _ _)
  ·
    refine kp_bind_p (kp_call fr_f_X3_isNumberNext (by first | rfl | (simp [kpSub]; done)) (keeps.rf _ _)) (fun r2 q1 => ?_)
    refine kp_ite ?_ ?_
    ·
      exact kp_some_p q1
    ·
      refine kp_let_v (fun v3 => ?_)
      refine kp_bind_p (kp_call fr_f_X3_isNumberNext (by first | rfl | (simp [kpSub]; done)) q1) (fun r5 q2 => ?_)
      refine kp_ite ?_ ?_
      ·
        exact kp_some_p q2
      ·
        refine kp_ite ?_ ?_
        ·
          exact kp_some_p q2
        ·
          refine kp_bind_m (kp_call fr_f_X1_exchange (by first | rfl | (simp [kpSub]; done)) q2) (fun r7 q3 => ?_)
          exact kp_some_p q3
theorem fr_f_X4_refuse {M : am_M} {x1 : Int32} : kp [(507, some 0, none)] M Prod.snd (f_X4_refuse M x1) := by
  unfold f_X4_refuse
  refine kp_let_v (fun v1 => ?_)
  refine kp_bind_v (fun r3 => ?_)
  refine kp_ite ?_ ?_
  ·
    exact kp_some_p (keeps.rf _ _)
  ·
    refine kp_ite ?_ ?_
    ·
      refine kp_ite ?_ ?_
      ·
        refine kp_let_m (keeps.si (keeps.rf _ _) (by first | rfl | (simp [kpS]; done))) (fun M6 q1 => ?_)
        exact kp_some_p q1
      ·
        exact kp_none
    ·
      exact kp_none
theorem fr_f_X4_row {M : am_M} {x1 : Int32} {x2 : Int32} {x3 : Int32} : kp [(2, none, some 0), (2, none, some 1), (303, none, none), (507, some 0, none)] M Prod.snd (f_X4_row M x1 x2 x3) := by
  unfold f_X4_row
  refine kp_bind_v (fun r2 => ?_)
  refine kp_ite ?_ ?_
  ·
    refine kp_bind_p (kp_call fr_f_X4_refuse (by first | rfl | (simp [kpSub]; done)) (keeps.rf _ _)) (fun r4 q1 => ?_)
    exact kp_some_p q1
  ·
    refine kp_bind_v (fun r6 => ?_)
    refine kp_ite ?_ ?_
    ·
      refine kp_bind_p (kp_call fr_f_X4_refuse (by first | rfl | (simp [kpSub]; done)) (keeps.rf _ _)) (fun r8 q2 => ?_)
      exact kp_some_p q2
    ·
      refine kp_bind_v (fun r10 => ?_)
      refine kp_ite ?_ ?_
      ·
        refine kp_bind_p (kp_call fr_f_X4_refuse (by first | rfl | (simp [kpSub]; done)) (keeps.rf _ _)) (fun r15 q3 => ?_)
        exact kp_some_p q3
      ·
        refine kp_ite ?_ ?_
        ·
          refine kp_bind_m (kp_call fr_f_X2_becomeRow (by first | rfl | (simp [kpSub]; done)) (keeps.rf _ _)) (fun r13 q4 => ?_)
          exact kp_some_p q4
        ·
          exact kp_none
theorem fr_f_X4_set {M : am_M} {x1 : Int32} {x2 : Int32} {x3 : Int64} : kp [(303, none, none), (507, some 0, none)] M Prod.snd (f_X4_set M x1 x2 x3) := by
  unfold f_X4_set
  refine kp_bind_v (fun r2 => ?_)
  refine kp_ite ?_ ?_
  ·
    refine kp_ite ?_ ?_
    ·
      refine kp_bind_v (fun r5 => ?_)
      refine kp_ite ?_ ?_
      ·
        refine kp_bind_p (kp_call fr_f_X4_refuse (by first | rfl | (simp [kpSub]; done)) (keeps.rf _ _)) (fun r10 q1 => ?_)
        exact kp_some_p q1
      ·
        refine kp_ite ?_ ?_
        ·
          refine kp_bind_m (kp_call fr_f_X2_put (by first | rfl | (simp [kpSub]; done)) (keeps.rf _ _)) (fun r8 q2 => ?_)
          exact kp_some_p q2
        ·
          exact kp_none
    ·
      exact kp_none
  ·
    refine kp_bind_p (kp_call fr_f_X4_refuse (by first | rfl | (simp [kpSub]; done)) (keeps.rf _ _)) (fun r13 q3 => ?_)
    exact kp_some_p q3
theorem fr_f_X4_copy {M : am_M} {x1 : Int32} {x2 : Int32} {x3 : Int32} {x4 : Int32} {x5 : Int32} : kp [(303, none, none), (507, some 0, none)] M Prod.snd (f_X4_copy M x1 x2 x3 x4 x5) := by
  unfold f_X4_copy
  refine kp_bind_v (fun r2 => ?_)
  refine kp_bind_v (fun z3 => ?_)
  refine kp_ite ?_ ?_
  ·
    refine kp_ite ?_ ?_
    ·
      refine kp_bind_v (fun r12 => ?_)
      refine kp_ite ?_ ?_
      ·
        refine kp_bind_p (kp_call fr_f_X4_refuse (by first | rfl | (simp [kpSub]; done)) (keeps.rf _ _)) (fun r14 q1 => ?_)
        exact kp_some_p q1
      ·
        refine kp_ite ?_ ?_
        ·
          refine kp_bind_v (fun r17 => ?_)
          refine kp_ite ?_ ?_
          ·
            refine kp_bind_p (kp_call fr_f_X4_refuse (by first | rfl | (simp [kpSub]; done)) (keeps.rf _ _)) (fun r23 q2 => ?_)
            exact kp_some_p q2
          ·
            refine kp_ite ?_ ?_
            ·
              refine kp_ite ?_ ?_
              ·
                refine kp_ite ?_ ?_
                ·
                  refine kp_let_m (keeps.rl (keeps.rf _ _) (fun _ => (by first | rfl | (simp [kpS]; done)))) (fun M21 q3 => ?_)
                  exact kp_some_p q3
                ·
                  exact kp_none
              ·
                exact kp_none
            ·
              exact kp_none
        ·
          exact kp_none
    ·
      exact kp_none
  ·
    refine kp_bind_p (kp_call fr_f_X4_refuse (by first | rfl | (simp [kpSub]; done)) (keeps.rf _ _)) (fun r27 q4 => ?_)
    exact kp_some_p q4
theorem fr_f_X4_drawing {M : am_M} {x1 : Int32} {x2 : Int32} {x3 : Int32} : kp [(2, none, some 0), (2, none, some 1), (2, none, some 2), (507, some 0, none)] M Prod.snd (f_X4_drawing M x1 x2 x3) := by
  unfold f_X4_drawing
  refine kp_bind_v (fun r2 => ?_)
  refine kp_ite ?_ ?_
  ·
    refine kp_bind_p (kp_call fr_f_X4_refuse (by first | rfl | (simp [kpSub]; done)) (keeps.rf _ _)) (fun r4 q1 => ?_)
    exact kp_some_p q1
  ·
    refine kp_bind_v (fun r6 => ?_)
    refine kp_ite ?_ ?_
    ·
      refine kp_bind_p (kp_call fr_f_X4_refuse (by first | rfl | (simp [kpSub]; done)) (keeps.rf _ _)) (fun r8 q2 => ?_)
      exact kp_some_p q2
    ·
      refine kp_ite ?_ ?_
      ·
        refine kp_bind_p (kp_call fr_f_X4_refuse (by first | rfl | (simp [kpSub]; done)) (keeps.rf _ _)) (fun r10 q3 => ?_)
        exact kp_some_p q3
      ·
        refine kp_bind_v (fun r12 => ?_)
        refine kp_ite ?_ ?_
        ·
          refine kp_bind_p (kp_call fr_f_X4_refuse (by first | rfl | (simp [kpSub]; done)) (keeps.rf _ _)) (fun r17 q4 => ?_)
          exact kp_some_p q4
        ·
          refine kp_ite ?_ ?_
          ·
            refine kp_bind_m (kp_call fr_f_X2_becomeDrawing (by first | rfl | (simp [kpSub]; done)) (keeps.rf _ _)) (fun r15 q5 => ?_)
            exact kp_some_p q5
          ·
            exact kp_none
theorem fr_f_X4_sayingOnce {M : am_M} {x1 : Int32} : kp [(103, some 0, none), (105, some 0, none), (106, some 0, none)] M Prod.snd (f_X4_sayingOnce M x1) := by
  unfold f_X4_sayingOnce
  refine kp_bind_p (kp_call fr_f_X0_countRows (by first | rfl | (simp [kpSub]; done)) (keeps.rf _ _)) (fun r2 q1 => ?_)
  refine kp_let_v (fun v3 => ?_)
  refine kp_bind_m (kp_call fr_f_X0_closeAhead (by first | rfl | (simp [kpSub]; done)) q1) (fun r5 q2 => ?_)
  refine kp_bind_p (kp_call fr_f_X0_countRows (by first | rfl | (simp [kpSub]; done)) q2) (fun r7 q3 => ?_)
  exact kp_some_p q3
theorem fr_f_X4_saying {M : am_M} {x1 : Int32} {x2 : Int32} : kp [(0, some 0, some 0), (0, some 0, some 1), (103, some 0, none), (105, some 0, none), (106, some 0, none)] M Prod.snd (f_X4_saying M x1 x2) := by
  unfold f_X4_saying
  refine kp_bind_m ?_ (fun z1 q1 => ?_)
  ·
    refine kp_ite ?_ ?_
    ·
      refine kp_bind_m (kp_call fr_f_X0_layShaken (by first | rfl | (simp [kpSub]; done)) (keeps.rf _ _)) (fun r5 q2 => ?_)
      exact kp_some_m q2
    ·
      refine kp_ite ?_ ?_
      ·
        refine kp_bind_m (kp_call fr_f_X0_layShaken (by first | rfl | (simp [kpSub]; done)) (keeps.rf _ _)) (fun r9 q3 => ?_)
        exact kp_some_m q3
      ·
        refine kp_bind_m (kp_call fr_f_X0_layHeaps (by first | rfl | (simp [kpSub]; done)) (keeps.rf _ _)) (fun r7 q4 => ?_)
        exact kp_some_m q4
  refine kp_ite ?_ ?_
  ·
    refine kp_bind_m (kp_call fr_f_X0_keepAheadByTwos (by first | rfl | (simp [kpSub]; done)) q1) (fun r14 q5 => ?_)
    refine kp_bind_p (kp_call fr_f_X0_countRows (by first | rfl | (simp [kpSub]; done)) q5) (fun r16 q6 => ?_)
    exact kp_some_p q6
  ·
    refine kp_ite ?_ ?_
    ·
      refine kp_bind_m (kp_call fr_f_X0_keepAheadFromBehind (by first | rfl | (simp [kpSub]; done)) q1) (fun r19 q7 => ?_)
      refine kp_bind_p (kp_call fr_f_X0_countRows (by first | rfl | (simp [kpSub]; done)) q7) (fun r21 q8 => ?_)
      exact kp_some_p q8
    ·
      refine kp_ite ?_ ?_
      ·
        refine kp_bind_m (kp_call fr_f_X0_keepAheadUntilSure (by first | rfl | (simp [kpSub]; done)) q1) (fun r24 q9 => ?_)
        refine kp_bind_p (kp_call fr_f_X0_countRows (by first | rfl | (simp [kpSub]; done)) q9) (fun r26 q10 => ?_)
        exact kp_some_p q10
      ·
        refine kp_ite ?_ ?_
        ·
          refine kp_bind_p (kp_call fr_f_X4_sayingOnce (by first | rfl | (simp [kpSub]; done)) q1) (fun r29 q11 => ?_)
          exact kp_some_p q11
        ·
          refine kp_bind_m (kp_call fr_f_X0_keepAhead (by first | rfl | (simp [kpSub]; done)) q1) (fun r31 q12 => ?_)
          refine kp_bind_p (kp_call fr_f_X0_countRows (by first | rfl | (simp [kpSub]; done)) q12) (fun r33 q13 => ?_)
          exact kp_some_p q13
theorem fr_f_X4_says {M : am_M} {x1 : Int32} {x2 : Int32} : kp [(0, some 0, some 0), (0, some 0, some 1), (103, some 0, none), (105, some 0, none), (106, some 0, none), (507, some 0, none)] M Prod.snd (f_X4_says M x1 x2) := by
  unfold f_X4_says
  refine kp_bind_v (fun r2 => ?_)
  refine kp_ite ?_ ?_
  ·
    refine kp_bind_p (kp_call fr_f_X4_refuse (by first | rfl | (simp [kpSub]; done)) (keeps.rf _ _)) (fun r4 q1 => ?_)
    exact kp_some_p q1
  ·
    refine kp_bind_v (fun r6 => ?_)
    refine kp_ite ?_ ?_
    ·
      refine kp_bind_p (kp_call fr_f_X4_refuse (by first | rfl | (simp [kpSub]; done)) (keeps.rf _ _)) (fun r31 q2 => ?_)
      exact kp_some_p q2
    ·
      refine kp_ite ?_ ?_
      ·
        refine kp_bind_v (fun r9 => ?_)
        refine kp_ite ?_ ?_
        ·
          refine kp_bind_v (fun r11 => ?_)
          refine kp_ite ?_ ?_
          ·
            refine kp_bind_p (kp_call fr_f_X4_refuse (by first | rfl | (simp [kpSub]; done)) (keeps.rf _ _)) (fun r13 q3 => ?_)
            exact kp_some_p q3
          ·
            refine kp_bind_v (fun r15 => ?_)
            refine kp_bind_v (fun r17 => ?_)
            refine kp_ite ?_ ?_
            ·
              refine kp_bind_p (kp_call fr_f_X4_refuse (by first | rfl | (simp [kpSub]; done)) (keeps.rf _ _)) (fun r24 q4 => ?_)
              exact kp_some_p q4
            ·
              refine kp_ite ?_ ?_
              ·
                exact kp_some_p (keeps.rf _ _)
              ·
                refine kp_bind_v (fun r19 => ?_)
                refine kp_bind_p (kp_call fr_f_X4_saying (by first | rfl | (simp [kpSub]; done)) (keeps.rf _ _)) (fun r21 q5 => ?_)
                exact kp_some_p q5
        ·
          refine kp_bind_p (kp_call fr_f_X4_refuse (by first | rfl | (simp [kpSub]; done)) (keeps.rf _ _)) (fun r28 q6 => ?_)
          exact kp_some_p q6
      ·
        exact kp_none
theorem fr_l_X4_head_6  : ∀ (n : Nat) (a1 : Int32) (a2 : Int32) (a3 : Int32) (M : am_M), kp [(0, some 0, some 0), (0, some 0, some 1), (103, some 0, none), (105, some 0, none), (106, some 0, none)] M Prod.snd (l_X4_head_6  n a1 a2 a3 M) := by
  intro n
  induction n with
  | zero => intro a1 a2 a3 M; exact kp_none
  | succ n ih =>
    intro a1 a2 a3 M
    rw [l_X4_head_6]
    refine kp_ite ?_ ?_
    ·
      exact kp_some_p (keeps.rf _ _)
    ·
      refine kp_ite ?_ ?_
      ·
        refine kp_bind_v (fun r3 => ?_)
        refine kp_bind_q ?_ (fun z4 q1 => ?_)
        ·
          refine kp_ite ?_ ?_
          ·
            exact kp_some_q (keeps.rf _ _)
          ·
            refine kp_ite ?_ ?_
            ·
              refine kp_bind_v (fun r9 => ?_)
              refine kp_ite ?_ ?_
              ·
                refine kp_bind_p (kp_call fr_f_X4_saying (by first | rfl | (simp [kpSub]; done)) (keeps.rf _ _)) (fun r12 q2 => ?_)
                refine kp_let_v (fun v13 => ?_)
                refine kp_ite ?_ ?_
                ·
                  exact kp_some_q q2
                ·
                  refine kp_ite ?_ ?_
                  ·
                    exact kp_some_q q2
                  ·
                    exact kp_some_q q2
              ·
                exact kp_none
            ·
              exact kp_none
        refine kp_let_v (fun v17 => ?_)
        exact kp_call (ih _ _ _ _) (by first | rfl | (simp [kpSub]; done)) q1
      ·
        exact kp_none
theorem fr_f_X4_head {M : am_M} : kp [(0, some 0, some 0), (0, some 0, some 1), (103, some 0, none), (105, some 0, none), (106, some 0, none), (507, some 0, none)] M Prod.snd (f_X4_head M) := by
  unfold f_X4_head
  refine kp_bind_p (kp_call (fr_l_X4_head_6 _ _ _ _ _) (by first | rfl | (simp [kpSub]; done)) (keeps.rf _ _)) (fun z19 q1 => ?_)
  refine kp_ite ?_ ?_
  ·
    refine kp_bind_p (kp_call fr_f_X4_refuse (by first | rfl | (simp [kpSub]; done)) q1) (fun r23 q2 => ?_)
    exact kp_some_p q2
  ·
    exact kp_some_p q1
theorem fr_f_X4_heap {M : am_M} {x1 : Int32} {x2 : Int32} : kp [(1, some 0, some 0), (1, some 0, some 1), (1, some 0, some 2), (203, some 0, none), (204, some 0, none), (205, some 0, none), (507, some 0, none)] M Prod.snd (f_X4_heap M x1 x2) := by
  unfold f_X4_heap
  refine kp_bind_v (fun r2 => ?_)
  refine kp_ite ?_ ?_
  ·
    refine kp_bind_p (kp_call fr_f_X4_refuse (by first | rfl | (simp [kpSub]; done)) (keeps.rf _ _)) (fun r4 q1 => ?_)
    exact kp_some_p q1
  ·
    refine kp_bind_v (fun r6 => ?_)
    refine kp_ite ?_ ?_
    ·
      refine kp_bind_p (kp_call fr_f_X4_refuse (by first | rfl | (simp [kpSub]; done)) (keeps.rf _ _)) (fun r8 q2 => ?_)
      exact kp_some_p q2
    ·
      refine kp_ite ?_ ?_
      ·
        refine kp_bind_p (kp_call fr_f_X4_refuse (by first | rfl | (simp [kpSub]; done)) (keeps.rf _ _)) (fun r23 q3 => ?_)
        exact kp_some_p q3
      ·
        refine kp_ite ?_ ?_
        ·
          refine kp_ite ?_ ?_
          ·
            refine kp_bind_p (kp_call fr_f_X4_refuse (by first | rfl | (simp [kpSub]; done)) (keeps.rf _ _)) (fun r10 q4 => ?_)
            exact kp_some_p q4
          ·
            refine kp_bind_v (fun r12 => ?_)
            refine kp_ite ?_ ?_
            ·
              refine kp_bind_p (kp_call fr_f_X4_refuse (by first | rfl | (simp [kpSub]; done)) (keeps.rf _ _)) (fun r16 q5 => ?_)
              exact kp_some_p q5
            ·
              refine kp_bind_p (kp_call fr_f_X1_layIn (by first | rfl | (simp [kpSub]; done)) (keeps.rf _ _)) (fun r14 q6 => ?_)
              exact kp_some_p q6
        ·
          refine kp_bind_p (kp_call fr_f_X4_refuse (by first | rfl | (simp [kpSub]; done)) (keeps.rf _ _)) (fun r20 q7 => ?_)
          exact kp_some_p q7
theorem fr_f_X4_fact {M : am_M} {x1 : Int32} {x2 : Int32} {x3 : Int32} : kp [(1, some 0, some 9), (210, some 0, none), (211, some 0, none), (212, some 0, none), (507, some 0, none)] M Prod.snd (f_X4_fact M x1 x2 x3) := by
  unfold f_X4_fact
  refine kp_bind_v (fun r2 => ?_)
  refine kp_ite ?_ ?_
  ·
    refine kp_bind_p (kp_call fr_f_X4_refuse (by first | rfl | (simp [kpSub]; done)) (keeps.rf _ _)) (fun r4 q1 => ?_)
    exact kp_some_p q1
  ·
    refine kp_bind_v (fun r6 => ?_)
    refine kp_ite ?_ ?_
    ·
      refine kp_bind_p (kp_call fr_f_X4_refuse (by first | rfl | (simp [kpSub]; done)) (keeps.rf _ _)) (fun r8 q2 => ?_)
      exact kp_some_p q2
    ·
      refine kp_bind_v (fun r10 => ?_)
      refine kp_ite ?_ ?_
      ·
        refine kp_bind_p (kp_call fr_f_X4_refuse (by first | rfl | (simp [kpSub]; done)) (keeps.rf _ _)) (fun r17 q3 => ?_)
        exact kp_some_p q3
      ·
        refine kp_ite ?_ ?_
        ·
          refine kp_bind_p (kp_call fr_f_X1_remember (by first | rfl | (simp [kpSub]; done)) (keeps.rf _ _)) (fun r12 q4 => ?_)
          exact kp_some_p q4
        ·
          refine kp_bind_p (kp_call fr_f_X4_refuse (by first | rfl | (simp [kpSub]; done)) (keeps.rf _ _)) (fun r14 q5 => ?_)
          exact kp_some_p q5
theorem fr_f_X4_forget {M : am_M} {x1 : Int32} : kp [(1, some 0, some 9), (210, some 0, none), (211, some 0, none), (212, some 0, none), (507, some 0, none)] M Prod.snd (f_X4_forget M x1) := by
  unfold f_X4_forget
  refine kp_bind_v (fun r2 => ?_)
  refine kp_ite ?_ ?_
  ·
    refine kp_bind_p (kp_call fr_f_X4_refuse (by first | rfl | (simp [kpSub]; done)) (keeps.rf _ _)) (fun r6 q1 => ?_)
    exact kp_some_p q1
  ·
    refine kp_bind_p (kp_call fr_f_X1_dropFact (by first | rfl | (simp [kpSub]; done)) (keeps.rf _ _)) (fun r4 q2 => ?_)
    exact kp_some_p q2
theorem fr_f_X4_swap {M : am_M} {x1 : Int32} {x2 : Int32} : kp [(205, some 0, none), (507, some 0, none)] M Prod.snd (f_X4_swap M x1 x2) := by
  unfold f_X4_swap
  refine kp_bind_v (fun r2 => ?_)
  refine kp_ite ?_ ?_
  ·
    refine kp_bind_p (kp_call fr_f_X4_refuse (by first | rfl | (simp [kpSub]; done)) (keeps.rf _ _)) (fun r4 q1 => ?_)
    exact kp_some_p q1
  ·
    refine kp_bind_v (fun r6 => ?_)
    refine kp_ite ?_ ?_
    ·
      refine kp_bind_p (kp_call fr_f_X4_refuse (by first | rfl | (simp [kpSub]; done)) (keeps.rf _ _)) (fun r14 q2 => ?_)
      exact kp_some_p q2
    ·
      refine kp_ite ?_ ?_
      ·
        refine kp_bind_m (kp_call fr_f_X1_exchange (by first | rfl | (simp [kpSub]; done)) (keeps.rf _ _)) (fun r8 q3 => ?_)
        refine kp_ite ?_ ?_
        ·
          exact kp_some_p q3
        ·
          exact kp_some_p q3
      ·
        refine kp_bind_p (kp_call fr_f_X4_refuse (by first | rfl | (simp [kpSub]; done)) (keeps.rf _ _)) (fun r11 q4 => ?_)
        exact kp_some_p q4
theorem fr_f_X4_feed {M : am_M} {x1 : Int32} : kp [(3, some 0, some 0), (402, some 0, none), (507, some 0, none)] M Prod.snd (f_X4_feed M x1) := by
  unfold f_X4_feed
  refine kp_bind_v (fun r2 => ?_)
  refine kp_ite ?_ ?_
  ·
    refine kp_bind_p (kp_call fr_f_X4_refuse (by first | rfl | (simp [kpSub]; done)) (keeps.rf _ _)) (fun r9 q1 => ?_)
    exact kp_some_p q1
  ·
    refine kp_ite ?_ ?_
    ·
      refine kp_bind_p (kp_call fr_f_X3_append (by first | rfl | (simp [kpSub]; done)) (keeps.rf _ _)) (fun r4 q2 => ?_)
      exact kp_some_p q2
    ·
      refine kp_bind_p (kp_call fr_f_X4_refuse (by first | rfl | (simp [kpSub]; done)) (keeps.rf _ _)) (fun r6 q3 => ?_)
      exact kp_some_p q3
theorem fr_f_X4_wipe {M : am_M} : kp [(3, some 0, some 0)] M Prod.snd (f_X4_wipe M) := by
  unfold f_X4_wipe
  refine kp_let_v (fun v1 => ?_)
  refine kp_let_m (keeps.si (keeps.rf _ _) (by first | rfl | (simp [kpS]; done))) (fun M2 q1 => ?_)
  exact kp_some_p q1
theorem fr_f_X4_heapOf {M : am_M} {x1 : Int32} {x2 : Int32} : kp [(507, some 0, none)] M Prod.snd (f_X4_heapOf M x1 x2) := by
  unfold f_X4_heapOf
  refine kp_bind_v (fun r2 => ?_)
  refine kp_ite ?_ ?_
  ·
    refine kp_bind_p (kp_call fr_f_X4_refuse (by first | rfl | (simp [kpSub]; done)) (keeps.rf _ _)) (fun r4 q1 => ?_)
    exact kp_some_p q1
  ·
    refine kp_bind_v (fun r6 => ?_)
    refine kp_ite ?_ ?_
    ·
      refine kp_bind_p (kp_call fr_f_X4_refuse (by first | rfl | (simp [kpSub]; done)) (keeps.rf _ _)) (fun r14 q2 => ?_)
      exact kp_some_p q2
    ·
      refine kp_ite ?_ ?_
      ·
        refine kp_bind_v (fun r11 => ?_)
        exact kp_some_p (keeps.rf _ _)
      ·
        refine kp_ite ?_ ?_
        ·
          refine kp_ite ?_ ?_
          ·
            exact kp_some_p (keeps.rf _ _)
          ·
            exact kp_none
        ·
          refine kp_ite ?_ ?_
          ·
            exact kp_some_p (keeps.rf _ _)
          ·
            exact kp_none
theorem fr_f_X4_factOf {M : am_M} {x1 : Int32} {x2 : Int32} : kp [(507, some 0, none)] M Prod.snd (f_X4_factOf M x1 x2) := by
  unfold f_X4_factOf
  refine kp_bind_v (fun r2 => ?_)
  refine kp_ite ?_ ?_
  ·
    refine kp_bind_p (kp_call fr_f_X4_refuse (by first | rfl | (simp [kpSub]; done)) (keeps.rf _ _)) (fun r4 q1 => ?_)
    exact kp_some_p q1
  ·
    refine kp_bind_v (fun r6 => ?_)
    refine kp_ite ?_ ?_
    ·
      refine kp_bind_p (kp_call fr_f_X4_refuse (by first | rfl | (simp [kpSub]; done)) (keeps.rf _ _)) (fun r13 q2 => ?_)
      exact kp_some_p q2
    ·
      refine kp_ite ?_ ?_
      ·
        refine kp_ite ?_ ?_
        ·
          exact kp_some_p (keeps.rf _ _)
        ·
          exact kp_none
      ·
        refine kp_ite ?_ ?_
        ·
          refine kp_ite ?_ ?_
          ·
            exact kp_some_p (keeps.rf _ _)
          ·
            exact kp_none
        ·
          refine kp_ite ?_ ?_
          ·
            exact kp_some_p (keeps.rf _ _)
          ·
            exact kp_none
theorem fr_f_X4_read {M : am_M} {x1 : Int32} : kp [(1, some 0, some 6), (1, some 0, some 7), (208, some 0, none), (507, some 0, none)] M Prod.snd (f_X4_read M x1) := by
  unfold f_X4_read
  refine kp_bind_p (kp_call fr_f_X1_take (by first | rfl | (simp [kpSub]; done)) (keeps.rf _ _)) (fun r2 q1 => ?_)
  refine kp_ite ?_ ?_
  ·
    refine kp_bind_p (kp_call fr_f_X4_refuse (by first | rfl | (simp [kpSub]; done)) q1) (fun r4 q2 => ?_)
    exact kp_some_p q2
  ·
    exact kp_some_p q1
