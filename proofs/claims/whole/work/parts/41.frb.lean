theorem fr_f_X4_slip {M : am_M} {x1 : Int32} : kp [(507, some 0, none)] M Prod.snd (f_X4_slip M x1) := by
  unfold f_X4_slip
  refine kp_bind_v (fun r2 => ?_)
  refine kp_ite ?_ ?_
  ·
    refine kp_bind_p (kp_call fr_f_X4_refuse (by first | rfl | (simp [kpSub]; done)) (keeps.rf _ _)) (fun r4 q1 => ?_)
    exact kp_some_p q1
  ·
    refine kp_ite ?_ ?_
    ·
      exact kp_some_p (keeps.rf _ _)
    ·
      exact kp_none
theorem fr_f_X4_again {M : am_M} : kp [(1, some 0, some 6), (1, some 0, some 7)] M Prod.snd (f_X4_again M) := by
  unfold f_X4_again
  refine kp_let_v (fun v1 => ?_)
  refine kp_bind_m (kp_call fr_f_X1_layBack (by first | rfl | (simp [kpSub]; done)) (keeps.rf _ _)) (fun r3 q1 => ?_)
  exact kp_some_p q1
theorem fr_f_X4_isSure {M : am_M} : kp [(0, some 0, some 0), (0, some 0, some 1), (103, some 0, none), (104, some 0, none)] M Prod.snd (f_X4_isSure M) := by
  unfold f_X4_isSure
  refine kp_bind_m (kp_call fr_f_X0_layHeaps (by first | rfl | (simp [kpSub]; done)) (keeps.rf _ _)) (fun r2 q1 => ?_)
  refine kp_bind_m (kp_call fr_f_X0_markUnsure (by first | rfl | (simp [kpSub]; done)) q1) (fun r4 q2 => ?_)
  refine kp_bind_v (fun r6 => ?_)
  refine kp_ite ?_ ?_
  ·
    exact kp_some_p q2
  ·
    exact kp_some_p q2
theorem fr_f_X4_rows {M : am_M} : kp [(0, some 0, some 0), (0, some 0, some 1), (103, some 0, none), (105, some 0, none), (106, some 0, none)] M Prod.snd (f_X4_rows M) := by
  unfold f_X4_rows
  refine kp_bind_m (kp_call fr_f_X0_layHeaps (by first | rfl | (simp [kpSub]; done)) (keeps.rf _ _)) (fun r2 q1 => ?_)
  refine kp_bind_p (kp_call fr_f_X0_countRows (by first | rfl | (simp [kpSub]; done)) q1) (fun r4 q2 => ?_)
  exact kp_some_p q2
theorem fr_f_X4_ways {M : am_M} : kp [(0, some 0, some 0), (0, some 0, some 1), (103, some 0, none), (105, some 0, none), (106, some 0, none)] M Prod.snd (f_X4_ways M) := by
  unfold f_X4_ways
  refine kp_bind_m (kp_call fr_f_X0_layFitting (by first | rfl | (simp [kpSub]; done)) (keeps.rf _ _)) (fun r2 q1 => ?_)
  refine kp_bind_p (kp_call fr_f_X0_countRows (by first | rfl | (simp [kpSub]; done)) q1) (fun r4 q2 => ?_)
  exact kp_some_p q2
theorem fr_f_X4_fittingAhead {M : am_M} {x1 : Int32} : kp [(0, some 0, some 0), (0, some 0, some 1), (103, some 0, none), (105, some 0, none), (106, some 0, none)] M Prod.snd (f_X4_fittingAhead M x1) := by
  unfold f_X4_fittingAhead
  refine kp_bind_m (kp_call fr_f_X0_layFitting (by first | rfl | (simp [kpSub]; done)) (keeps.rf _ _)) (fun r2 q1 => ?_)
  refine kp_bind_m (kp_call fr_f_X0_keepAhead (by first | rfl | (simp [kpSub]; done)) q1) (fun r4 q2 => ?_)
  refine kp_bind_p (kp_call fr_f_X0_countRows (by first | rfl | (simp [kpSub]; done)) q2) (fun r6 q3 => ?_)
  exact kp_some_p q3
theorem fr_f_X4_ahead {M : am_M} {x1 : Int32} : kp [(0, some 0, some 0), (0, some 0, some 1), (103, some 0, none), (105, some 0, none), (106, some 0, none), (507, some 0, none)] M Prod.snd (f_X4_ahead M x1) := by
  unfold f_X4_ahead
  refine kp_bind_v (fun r2 => ?_)
  refine kp_ite ?_ ?_
  ·
    refine kp_bind_p (kp_call fr_f_X4_refuse (by first | rfl | (simp [kpSub]; done)) (keeps.rf _ _)) (fun r4 q1 => ?_)
    exact kp_some_p q1
  ·
    refine kp_bind_p (kp_call fr_f_X4_fittingAhead (by first | rfl | (simp [kpSub]; done)) (keeps.rf _ _)) (fun r6 q2 => ?_)
    exact kp_some_p q2
theorem fr_f_X4_never {M : am_M} : kp [(0, some 0, some 0), (0, some 0, some 1), (103, some 0, none), (105, some 0, none), (106, some 0, none)] M Prod.snd (f_X4_never M) := by
  unfold f_X4_never
  refine kp_bind_m (kp_call fr_f_X0_layFitting (by first | rfl | (simp [kpSub]; done)) (keeps.rf _ _)) (fun r2 q1 => ?_)
  refine kp_bind_m (kp_call fr_f_X0_keepNotBehind (by first | rfl | (simp [kpSub]; done)) q1) (fun r4 q2 => ?_)
  refine kp_bind_p (kp_call fr_f_X0_countRows (by first | rfl | (simp [kpSub]; done)) q2) (fun r6 q3 => ?_)
  exact kp_some_p q3
theorem fr_f_X4_tallyLevel {M : am_M} : kp [(0, some 0, some 0), (0, some 0, some 1), (102, some 0, none), (103, some 0, none), (104, some 0, none), (107, some 0, none)] M id (f_X4_tallyLevel M) := by
  unfold f_X4_tallyLevel
  refine kp_bind_m (kp_call fr_f_X0_layFitting (by first | rfl | (simp [kpSub]; done)) (keeps.rf _ _)) (fun r2 q1 => ?_)
  refine kp_bind_m (kp_call fr_f_X0_markLevel (by first | rfl | (simp [kpSub]; done)) q1) (fun r4 q2 => ?_)
  refine kp_bind_m (kp_call fr_f_X0_tallyMarks (by first | rfl | (simp [kpSub]; done)) q2) (fun r6 q3 => ?_)
  exact kp_some_m q3
theorem fr_f_X4_level {M : am_M} {x1 : Int32} : kp [(0, some 0, some 0), (0, some 0, some 1), (102, some 0, none), (103, some 0, none), (104, some 0, none), (107, some 0, none), (507, some 0, none)] M Prod.snd (f_X4_level M x1) := by
  unfold f_X4_level
  refine kp_bind_v (fun r2 => ?_)
  refine kp_ite ?_ ?_
  ·
    refine kp_bind_p (kp_call fr_f_X4_refuse (by first | rfl | (simp [kpSub]; done)) (keeps.rf _ _)) (fun r7 q1 => ?_)
    exact kp_some_p q1
  ·
    refine kp_bind_m (kp_call fr_f_X4_tallyLevel (by first | rfl | (simp [kpSub]; done)) (keeps.rf _ _)) (fun r4 q2 => ?_)
    refine kp_ite ?_ ?_
    ·
      exact kp_some_p q2
    ·
      exact kp_none
theorem fr_f_X4_last {M : am_M} {x1 : Int32} : kp [(0, some 0, some 0), (0, some 0, some 1), (103, some 0, none), (105, some 0, none), (106, some 0, none), (507, some 0, none)] M Prod.snd (f_X4_last M x1) := by
  unfold f_X4_last
  refine kp_bind_v (fun r2 => ?_)
  refine kp_ite ?_ ?_
  ·
    refine kp_bind_p (kp_call fr_f_X4_refuse (by first | rfl | (simp [kpSub]; done)) (keeps.rf _ _)) (fun r13 q1 => ?_)
    exact kp_some_p q1
  ·
    refine kp_bind_m (kp_call fr_f_X0_layFitting (by first | rfl | (simp [kpSub]; done)) (keeps.rf _ _)) (fun r4 q2 => ?_)
    refine kp_ite ?_ ?_
    ·
      refine kp_bind_m (kp_call fr_f_X0_keepLevel (by first | rfl | (simp [kpSub]; done)) q2) (fun r6 q3 => ?_)
      refine kp_bind_m (kp_call fr_f_X0_closeLevel (by first | rfl | (simp [kpSub]; done)) q3) (fun r8 q4 => ?_)
      refine kp_bind_p (kp_call fr_f_X0_countRows (by first | rfl | (simp [kpSub]; done)) q4) (fun r10 q5 => ?_)
      exact kp_some_p q5
    ·
      exact kp_some_p q2
theorem fr_f_X4_tallySure {M : am_M} : kp [(0, some 0, some 0), (0, some 0, some 1), (102, some 0, none), (103, some 0, none), (104, some 0, none), (107, some 0, none)] M id (f_X4_tallySure M) := by
  unfold f_X4_tallySure
  refine kp_bind_m (kp_call fr_f_X0_layFitting (by first | rfl | (simp [kpSub]; done)) (keeps.rf _ _)) (fun r2 q1 => ?_)
  refine kp_bind_m (kp_call fr_f_X0_markUnsure (by first | rfl | (simp [kpSub]; done)) q1) (fun r4 q2 => ?_)
  refine kp_bind_m (kp_call fr_f_X0_tallyMarks (by first | rfl | (simp [kpSub]; done)) q2) (fun r6 q3 => ?_)
  exact kp_some_m q3
theorem fr_f_X4_sure {M : am_M} {x1 : Int32} : kp [(0, some 0, some 0), (0, some 0, some 1), (102, some 0, none), (103, some 0, none), (104, some 0, none), (107, some 0, none), (507, some 0, none)] M Prod.snd (f_X4_sure M x1) := by
  unfold f_X4_sure
  refine kp_bind_v (fun r2 => ?_)
  refine kp_ite ?_ ?_
  ·
    refine kp_bind_p (kp_call fr_f_X4_refuse (by first | rfl | (simp [kpSub]; done)) (keeps.rf _ _)) (fun r7 q1 => ?_)
    exact kp_some_p q1
  ·
    refine kp_bind_m (kp_call fr_f_X4_tallySure (by first | rfl | (simp [kpSub]; done)) (keeps.rf _ _)) (fun r4 q2 => ?_)
    refine kp_ite ?_ ?_
    ·
      exact kp_some_p q2
    ·
      exact kp_none
theorem fr_f_X4_soFar {M : am_M} {x1 : Int32} {x2 : Int32} : kp [(0, some 0, some 0), (0, some 0, some 1), (103, some 0, none), (105, some 0, none), (106, some 0, none), (507, some 0, none)] M Prod.snd (f_X4_soFar M x1 x2) := by
  unfold f_X4_soFar
  refine kp_bind_v (fun r2 => ?_)
  refine kp_ite ?_ ?_
  ·
    refine kp_bind_p (kp_call fr_f_X4_refuse (by first | rfl | (simp [kpSub]; done)) (keeps.rf _ _)) (fun r4 q1 => ?_)
    exact kp_some_p q1
  ·
    refine kp_bind_v (fun r6 => ?_)
    refine kp_ite ?_ ?_
    ·
      refine kp_bind_p (kp_call fr_f_X4_refuse (by first | rfl | (simp [kpSub]; done)) (keeps.rf _ _)) (fun r15 q2 => ?_)
      exact kp_some_p q2
    ·
      refine kp_bind_m (kp_call fr_f_X0_layFitting (by first | rfl | (simp [kpSub]; done)) (keeps.rf _ _)) (fun r8 q3 => ?_)
      refine kp_ite ?_ ?_
      ·
        refine kp_bind_m (kp_call fr_f_X0_keepAt (by first | rfl | (simp [kpSub]; done)) q3) (fun r10 q4 => ?_)
        refine kp_bind_p (kp_call fr_f_X0_countRows (by first | rfl | (simp [kpSub]; done)) q4) (fun r12 q5 => ?_)
        exact kp_some_p q5
      ·
        exact kp_some_p q3
theorem fr_f_X4_spent {M : am_M} : kp [(0, some 0, some 0), (0, some 0, some 1), (103, some 0, none), (104, some 0, none), (105, some 0, none), (106, some 0, none)] M Prod.snd (f_X4_spent M) := by
  unfold f_X4_spent
  refine kp_bind_m (kp_call fr_f_X0_layFitting (by first | rfl | (simp [kpSub]; done)) (keeps.rf _ _)) (fun r2 q1 => ?_)
  refine kp_bind_m (kp_call fr_f_X0_markAhead (by first | rfl | (simp [kpSub]; done)) q1) (fun r4 q2 => ?_)
  refine kp_bind_p (kp_call fr_f_X0_sumMarks (by first | rfl | (simp [kpSub]; done)) q2) (fun r6 q3 => ?_)
  exact kp_some_p q3
theorem fr_f_X4_mean {M : am_M} : kp [(0, some 0, some 0), (0, some 0, some 1), (103, some 0, none), (104, some 0, none), (105, some 0, none), (106, some 0, none)] M Prod.snd (f_X4_mean M) := by
  unfold f_X4_mean
  refine kp_bind_m (kp_call fr_f_X0_layFitting (by first | rfl | (simp [kpSub]; done)) (keeps.rf _ _)) (fun r2 q1 => ?_)
  refine kp_bind_m (kp_call fr_f_X0_markUnsure (by first | rfl | (simp [kpSub]; done)) q1) (fun r4 q2 => ?_)
  refine kp_bind_p (kp_call fr_f_X0_sumMarks (by first | rfl | (simp [kpSub]; done)) q2) (fun r6 q3 => ?_)
  exact kp_some_p q3
theorem fr_f_X4_price {M : am_M} {x1 : Int32} : kp [(0, some 0, some 0), (0, some 0, some 1), (103, some 0, none), (105, some 0, none), (106, some 0, none), (507, some 0, none)] M Prod.snd (f_X4_price M x1) := by
  unfold f_X4_price
  refine kp_bind_v (fun r2 => ?_)
  refine kp_ite ?_ ?_
  ·
    refine kp_bind_p (kp_call fr_f_X4_refuse (by first | rfl | (simp [kpSub]; done)) (keeps.rf _ _)) (fun r15 q1 => ?_)
    exact kp_some_p q1
  ·
    refine kp_bind_m (kp_call fr_f_X0_layFitting (by first | rfl | (simp [kpSub]; done)) (keeps.rf _ _)) (fun r4 q2 => ?_)
    refine kp_bind_p (kp_call fr_f_X0_countRows (by first | rfl | (simp [kpSub]; done)) q2) (fun r6 q3 => ?_)
    refine kp_let_v (fun v7 => ?_)
    refine kp_ite ?_ ?_
    ·
      refine kp_bind_p (kp_call fr_f_X4_refuse (by first | rfl | (simp [kpSub]; done)) q3) (fun r12 q4 => ?_)
      exact kp_some_p q4
    ·
      refine kp_bind_p (kp_call fr_f_X4_fittingAhead (by first | rfl | (simp [kpSub]; done)) q3) (fun r9 q5 => ?_)
      refine kp_ite ?_ ?_
      ·
        exact kp_some_p q5
      ·
        exact kp_none
theorem fr_f_X4_often {M : am_M} : kp [(0, some 0, some 0), (0, some 0, some 1), (102, some 0, none), (103, some 0, none), (104, some 0, none), (107, some 0, none)] M Prod.snd (f_X4_often M) := by
  unfold f_X4_often
  refine kp_bind_m (kp_call fr_f_X4_tallyLevel (by first | rfl | (simp [kpSub]; done)) (keeps.rf _ _)) (fun r2 q1 => ?_)
  refine kp_bind_v (fun z11 => ?_)
  exact kp_some_p q1
theorem fr_f_X4_half {M : am_M} : kp [(0, some 0, some 0), (0, some 0, some 1), (102, some 0, none), (103, some 0, none), (104, some 0, none), (107, some 0, none), (507, some 0, none)] M Prod.snd (f_X4_half M) := by
  unfold f_X4_half
  refine kp_bind_m (kp_call fr_f_X4_tallySure (by first | rfl | (simp [kpSub]; done)) (keeps.rf _ _)) (fun r2 q1 => ?_)
  refine kp_bind_v (fun r4 => ?_)
  refine kp_ite ?_ ?_
  ·
    refine kp_bind_p (kp_call fr_f_X4_refuse (by first | rfl | (simp [kpSub]; done)) q1) (fun r15 q2 => ?_)
    exact kp_some_p q2
  ·
    refine kp_let_v (fun v5 => ?_)
    refine kp_bind_v (fun z11 => ?_)
    exact kp_some_p q1
theorem fr_f_X4_judge {M : am_M} {x1 : Int32} : kp [(0, some 0, some 0), (0, some 0, some 1), (103, some 0, none), (507, some 0, none)] M Prod.snd (f_X4_judge M x1) := by
  unfold f_X4_judge
  refine kp_bind_v (fun r2 => ?_)
  refine kp_ite ?_ ?_
  ·
    refine kp_bind_m (kp_call fr_f_X0_layFitting (by first | rfl | (simp [kpSub]; done)) (keeps.rf _ _)) (fun r4 q1 => ?_)
    refine kp_ite ?_ ?_
    ·
      refine kp_bind_v (fun r7 => ?_)
      exact kp_some_p q1
    ·
      exact kp_none
  ·
    refine kp_bind_p (kp_call fr_f_X4_refuse (by first | rfl | (simp [kpSub]; done)) (keeps.rf _ _)) (fun r9 q2 => ?_)
    exact kp_some_p q2
theorem fr_f_X4_againstTold {M : am_M} {x1 : Int32} : kp [(0, some 0, some 0), (0, some 0, some 1), (103, some 0, none)] M Prod.snd (f_X4_againstTold M x1) := by
  unfold f_X4_againstTold
  refine kp_bind_v (fun r2 => ?_)
  refine kp_ite ?_ ?_
  ·
    refine kp_bind_m (kp_call fr_f_X0_layFitting (by first | rfl | (simp [kpSub]; done)) (keeps.rf _ _)) (fun r4 q1 => ?_)
    refine kp_ite ?_ ?_
    ·
      refine kp_ite ?_ ?_
      ·
        refine kp_ite ?_ ?_
        ·
          refine kp_bind_v (fun r8 => ?_)
          refine kp_ite ?_ ?_
          ·
            exact kp_some_p q1
          ·
            exact kp_some_p q1
        ·
          exact kp_none
      ·
        exact kp_some_p q1
    ·
      exact kp_none
  ·
    exact kp_some_p (keeps.rf _ _)
theorem fr_f_X4_told {M : am_M} {x1 : Int32} {x2 : Int32} : kp [(0, some 0, some 0), (0, some 0, some 1), (103, some 0, none), (507, some 0, none)] M Prod.snd (f_X4_told M x1 x2) := by
  unfold f_X4_told
  refine kp_bind_v (fun r2 => ?_)
  refine kp_bind_p ?_ (fun z3 q1 => ?_)
  ·
    refine kp_ite ?_ ?_
    ·
      exact kp_some_p (keeps.rf _ _)
    ·
      refine kp_bind_p (kp_call fr_f_X4_againstTold (by first | rfl | (simp [kpSub]; done)) (keeps.rf _ _)) (fun r7 q2 => ?_)
      exact kp_some_p q2
  refine kp_let_v (fun v9 => ?_)
  refine kp_ite ?_ ?_
  ·
    refine kp_ite ?_ ?_
    ·
      refine kp_bind_v (fun r12 => ?_)
      exact kp_some_p q1
    ·
      exact kp_none
  ·
    refine kp_bind_p (kp_call fr_f_X4_refuse (by first | rfl | (simp [kpSub]; done)) q1) (fun r14 q3 => ?_)
    exact kp_some_p q3
theorem fr_f_X4_luck {M : am_M} {x1 : Int32} : kp [(0, some 0, some 0), (0, some 0, some 1), (102, some 0, none), (103, some 0, none), (104, some 0, none), (107, some 0, none), (507, some 0, none)] M Prod.snd (f_X4_luck M x1) := by
  unfold f_X4_luck
  refine kp_bind_p (kp_call fr_f_X4_againstTold (by first | rfl | (simp [kpSub]; done)) (keeps.rf _ _)) (fun r2 q1 => ?_)
  refine kp_let_v (fun v3 => ?_)
  refine kp_ite ?_ ?_
  ·
    refine kp_bind_m (kp_call fr_f_X0_layFitting (by first | rfl | (simp [kpSub]; done)) q1) (fun r5 q2 => ?_)
    refine kp_bind_m (kp_call fr_f_X0_markAhead (by first | rfl | (simp [kpSub]; done)) q2) (fun r7 q3 => ?_)
    refine kp_bind_m (kp_call fr_f_X0_tallyMarks (by first | rfl | (simp [kpSub]; done)) q3) (fun r9 q4 => ?_)
    refine kp_ite ?_ ?_
    ·
      refine kp_bind_v (fun r12 => ?_)
      refine kp_bind_v (fun r14 => ?_)
      exact kp_some_p q4
    ·
      exact kp_none
  ·
    refine kp_bind_p (kp_call fr_f_X4_refuse (by first | rfl | (simp [kpSub]; done)) q1) (fun r16 q5 => ?_)
    exact kp_some_p q5
theorem fr_l_X4_tryOrder_7  : ∀ (n : Nat) (a2 : Int32) (a3 : Int32) (a4 : Int32) (M : am_M), kp [(506, some 0, none)] M id (l_X4_tryOrder_7  n a2 a3 a4 M) := by
  intro n
  induction n with
  | zero => intro a2 a3 a4 M; exact kp_none
  | succ n ih =>
    intro a2 a3 a4 M
    rw [l_X4_tryOrder_7]
    refine kp_ite ?_ ?_
    ·
      exact kp_some_m (keeps.rf _ _)
    ·
      refine kp_ite ?_ ?_
      ·
        refine kp_let_v (fun v2 => ?_)
        refine kp_ite ?_ ?_
        ·
          refine kp_bind_v (fun r5 => ?_)
          refine kp_ite ?_ ?_
          ·
            refine kp_let_v (fun v7 => ?_)
            refine kp_let_v (fun v8 => ?_)
            refine kp_ite ?_ ?_
            ·
              refine kp_let_m (keeps.si (keeps.rf _ _) (by first | rfl | (simp [kpS]; done))) (fun M10 q1 => ?_)
              refine kp_let_v (fun v11 => ?_)
              exact kp_call (ih _ _ _ _) (by first | rfl | (simp [kpSub]; done)) q1
            ·
              exact kp_none
          ·
            exact kp_none
        ·
          exact kp_none
      ·
        exact kp_none
theorem fr_f_X4_tryOrder {M : am_M} {x1 : Int32} : kp [(506, some 0, none)] M id (f_X4_tryOrder M x1) := by
  unfold f_X4_tryOrder
  refine kp_bind_m (kp_call (fr_l_X4_tryOrder_7 _ _ _ _ _) (by first | rfl | (simp [kpSub]; done)) (keeps.rf _ _)) (fun z13 q1 => ?_)
  exact kp_some_m q1
theorem fr_f_X4_spentBy {M : am_M} {x1 : Int32} : kp [(0, some 0, some 0), (0, some 0, some 1), (103, some 0, none), (104, some 0, none), (105, some 0, none), (106, some 0, none), (506, some 0, none)] M Prod.snd (f_X4_spentBy M x1) := by
  unfold f_X4_spentBy
  refine kp_bind_m (kp_call fr_f_X4_tryOrder (by first | rfl | (simp [kpSub]; done)) (keeps.rf _ _)) (fun r2 q1 => ?_)
  refine kp_bind_m (kp_call fr_f_X0_layHeaps (by first | rfl | (simp [kpSub]; done)) q1) (fun r4 q2 => ?_)
  refine kp_bind_m (kp_call fr_f_X0_markAhead (by first | rfl | (simp [kpSub]; done)) q2) (fun r6 q3 => ?_)
  refine kp_bind_p (kp_call fr_f_X0_sumMarks (by first | rfl | (simp [kpSub]; done)) q3) (fun r8 q4 => ?_)
  exact kp_some_p q4
theorem fr_l_X4_order_35 {a1 : Int32} {a2 : Int32} : ∀ (n : Nat) (a3 : Int32) (a4 : Int64) (a6 : Int32) (M : am_M), kp [(0, some 0, some 0), (0, some 0, some 1), (103, some 0, none), (104, some 0, none), (105, some 0, none), (106, some 0, none), (506, some 0, none)] M Prod.snd (l_X4_order_35 a1 a2 n a3 a4 a6 M) := by
  intro n
  induction n with
  | zero => intro a3 a4 a6 M; exact kp_none
  | succ n ih =>
    intro a3 a4 a6 M
    rw [l_X4_order_35]
    refine kp_ite ?_ ?_
    ·
      refine kp_ite ?_ ?_
      ·
        exact kp_some_p (keeps.rf _ _)
      ·
        refine kp_bind_p (kp_call fr_f_X4_spentBy (by first | rfl | (simp [kpSub]; done)) (keeps.rf _ _)) (fun r8 q1 => ?_)
        refine kp_let_v (fun v9 => ?_)
        refine kp_bind_v (fun z10 => ?_)
        refine kp_let_v (fun v16 => ?_)
        exact kp_call (ih _ _ _ _) (by first | rfl | (simp [kpSub]; done)) q1
    ·
      exact kp_none
theorem fr_f_X4_order {M : am_M} {x1 : Int32} {x2 : Int32} : kp [(0, some 0, some 0), (0, some 0, some 1), (103, some 0, none), (104, some 0, none), (105, some 0, none), (106, some 0, none), (506, some 0, none), (507, some 0, none)] M Prod.snd (f_X4_order M x1 x2) := by
  unfold f_X4_order
  refine kp_bind_v (fun r2 => ?_)
  refine kp_ite ?_ ?_
  ·
    refine kp_bind_p (kp_call fr_f_X4_refuse (by first | rfl | (simp [kpSub]; done)) (keeps.rf _ _)) (fun r25 q1 => ?_)
    exact kp_some_p q1
  ·
    refine kp_bind_p (kp_call fr_f_X4_spentBy (by first | rfl | (simp [kpSub]; done)) (keeps.rf _ _)) (fun r4 q2 => ?_)
    refine kp_let_v (fun v5 => ?_)
    refine kp_bind_p (kp_call (fr_l_X4_order_35 _ _ _ _ _) (by first | rfl | (simp [kpSub]; done)) q2) (fun z18 q3 => ?_)
    refine kp_bind_m (kp_call fr_f_X4_tryOrder (by first | rfl | (simp [kpSub]; done)) q3) (fun r22 q4 => ?_)
    refine kp_ite ?_ ?_
    ·
      exact kp_some_p q4
    ·
      exact kp_none
theorem fr_f_X4_lost {M : am_M} {x1 : Int32} : kp [(507, some 0, none)] M Prod.snd (f_X4_lost M x1) := by
  unfold f_X4_lost
  refine kp_bind_v (fun r2 => ?_)
  refine kp_ite ?_ ?_
  ·
    refine kp_bind_p (kp_call fr_f_X4_refuse (by first | rfl | (simp [kpSub]; done)) (keeps.rf _ _)) (fun r23 q1 => ?_)
    exact kp_some_p q1
  ·
    refine kp_let_v (fun v3 => ?_)
    refine kp_bind_v (fun z19 => ?_)
    exact kp_some_p (keeps.rf _ _)
theorem fr_f_X4_books {M : am_M} {x1 : Int32} {x2 : Int32} : kp [(507, some 0, none)] M Prod.snd (f_X4_books M x1 x2) := by
  unfold f_X4_books
  refine kp_bind_v (fun r2 => ?_)
  refine kp_ite ?_ ?_
  ·
    refine kp_ite ?_ ?_
    ·
      refine kp_ite ?_ ?_
      ·
        refine kp_bind_v (fun r6 => ?_)
        refine kp_ite ?_ ?_
        ·
          refine kp_ite ?_ ?_
          ·
            refine kp_ite ?_ ?_
            ·
              refine kp_bind_v (fun r10 => ?_)
              exact kp_some_p (keeps.rf _ _)
            ·
              exact kp_none
          ·
            exact kp_none
        ·
          exact kp_some_p (keeps.rf _ _)
      ·
        exact kp_none
    ·
      exact kp_none
  ·
    refine kp_bind_p (kp_call fr_f_X4_refuse (by first | rfl | (simp [kpSub]; done)) (keeps.rf _ _)) (fun r13 q1 => ?_)
    exact kp_some_p q1
theorem fr_f_X4_unlike {M : am_M} {x1 : Int32} {x2 : Int32} : kp [(507, some 0, none)] M Prod.snd (f_X4_unlike M x1 x2) := by
  unfold f_X4_unlike
  refine kp_bind_v (fun r2 => ?_)
  refine kp_ite ?_ ?_
  ·
    refine kp_ite ?_ ?_
    ·
      refine kp_ite ?_ ?_
      ·
        refine kp_bind_v (fun r6 => ?_)
        exact kp_some_p (keeps.rf _ _)
      ·
        exact kp_none
    ·
      exact kp_none
  ·
    refine kp_bind_p (kp_call fr_f_X4_refuse (by first | rfl | (simp [kpSub]; done)) (keeps.rf _ _)) (fun r8 q1 => ?_)
    exact kp_some_p q1
theorem fr_f_X4_draw {M : am_M} : kp [(1, some 0, some 6), (1, some 0, some 7), (1, some 0, some 13), (208, some 0, none), (507, some 0, none)] M Prod.snd (f_X4_draw M) := by
  unfold f_X4_draw
  refine kp_ite ?_ ?_
  ·
    refine kp_bind_p (kp_call fr_f_X1_takeByDraw (by first | rfl | (simp [kpSub]; done)) (keeps.rf _ _)) (fun r2 q1 => ?_)
    exact kp_some_p q1
  ·
    refine kp_bind_p (kp_call fr_f_X4_refuse (by first | rfl | (simp [kpSub]; done)) (keeps.rf _ _)) (fun r4 q2 => ?_)
    exact kp_some_p q2
theorem fr_l_X4_evening_18 {a1 : Int32} : ∀ (n : Nat) (a2 : Int32) (M : am_M), kp [(1, some 0, some 6), (1, some 0, some 7), (1, some 0, some 13), (208, some 0, none)] M id (l_X4_evening_18 a1 n a2 M) := by
  intro n
  induction n with
  | zero => intro a2 M; exact kp_none
  | succ n ih =>
    intro a2 M
    rw [l_X4_evening_18]
    refine kp_ite ?_ ?_
    ·
      exact kp_some_m (keeps.rf _ _)
    ·
      refine kp_bind_p (kp_call fr_f_X1_takeByDraw (by first | rfl | (simp [kpSub]; done)) (keeps.rf _ _)) (fun r3 q1 => ?_)
      refine kp_let_v (fun v4 => ?_)
      exact kp_call (ih _ _) (by first | rfl | (simp [kpSub]; done)) q1
theorem fr_f_X4_evening {M : am_M} : kp [(1, some 0, some 6), (1, some 0, some 7), (1, some 0, some 13), (208, some 0, none)] M Prod.snd (f_X4_evening M) := by
  unfold f_X4_evening
  refine kp_let_v (fun v1 => ?_)
  refine kp_bind_m (kp_call (fr_l_X4_evening_18 _ _ _) (by first | rfl | (simp [kpSub]; done)) (keeps.rf _ _)) (fun z6 q1 => ?_)
  refine kp_bind_v (fun r10 => ?_)
  exact kp_some_p q1
theorem fr_f_X4_seed {M : am_M} {x1 : Int32} : kp [(1, some 0, some 13)] M Prod.snd (f_X4_seed M x1) := by
  unfold f_X4_seed
  refine kp_let_v (fun v1 => ?_)
  refine kp_let_m (keeps.si (keeps.rf _ _) (by first | rfl | (simp [kpS]; done))) (fun M2 q1 => ?_)
  exact kp_some_p q1
theorem fr_f_X4_image {M : am_M} : kp [(1, some 1, some 0), (1, some 1, some 1), (1, some 1, some 2), (1, some 1, some 6), (1, some 1, some 7), (1, some 1, some 9), (1, some 1, some 13), (4, some 0, some 8), (203, some 1, none), (204, some 1, none), (205, some 1, none), (208, some 1, none), (210, some 1, none), (211, some 1, none), (212, some 1, none)] M Prod.snd (f_X4_image M) := by
  unfold f_X4_image
  refine kp_bind_m (kp_call fr_f_X1_takeOver (by first | rfl | (simp [kpSub]; done)) (keeps.rf _ _)) (fun r2 q1 => ?_)
  refine kp_let_m (keeps.si q1 (by first | rfl | (simp [kpS]; done))) (fun M3 q2 => ?_)
  exact kp_some_p q2
theorem fr_f_X4_back {M : am_M} : kp [(1, some 0, some 0), (1, some 0, some 1), (1, some 0, some 2), (1, some 0, some 6), (1, some 0, some 7), (1, some 0, some 9), (1, some 0, some 13), (203, some 0, none), (204, some 0, none), (205, some 0, none), (208, some 0, none), (210, some 0, none), (211, some 0, none), (212, some 0, none), (507, some 0, none)] M Prod.snd (f_X4_back M) := by
  unfold f_X4_back
  refine kp_ite ?_ ?_
  ·
    refine kp_bind_p (kp_call fr_f_X4_refuse (by first | rfl | (simp [kpSub]; done)) (keeps.rf _ _)) (fun r4 q1 => ?_)
    exact kp_some_p q1
  ·
    refine kp_bind_m (kp_call fr_f_X1_takeOver (by first | rfl | (simp [kpSub]; done)) (keeps.rf _ _)) (fun r2 q2 => ?_)
    exact kp_some_p q2
theorem fr_f_X5_refuse {M : am_M} {o : Nat} {x1 : Int32} : kp [(609, some o, none)] M Prod.snd (f_X5_refuse M o x1) := by
  unfold f_X5_refuse
  refine kp_ite ?_ ?_
  ·
    refine kp_ite ?_ ?_
    ·
      refine kp_let_m (keeps.si (keeps.rf _ _) (by first | rfl | (simp [kpS]; done))) (fun M3 q1 => ?_)
      exact kp_some_p q1
    ·
      exact kp_none
  ·
    exact kp_none
theorem fr_l_X5_row_67 {o0a : Nat} {a1 : Int32} : ∀ (n : Nat) (a4 : Int32) (M : am_M), kp [(703, some o0a, none)] M id (l_X5_row_67 o0a a1 n a4 M) := by
  intro n
  induction n with
  | zero => intro a4 M; exact kp_none
  | succ n ih =>
    intro a4 M
    rw [l_X5_row_67]
    refine kp_ite ?_ ?_
    ·
      exact kp_some_m (keeps.rf _ _)
    ·
      refine kp_ite ?_ ?_
      ·
        refine kp_ite ?_ ?_
        ·
          refine kp_let_m (keeps.sl (keeps.rf _ _) (by first | rfl | (simp [kpS]; done))) (fun M19 q1 => ?_)
          refine kp_let_v (fun v20 => ?_)
          exact kp_call (ih _ _) (by first | rfl | (simp [kpSub]; done)) q1
        ·
          exact kp_none
      ·
        exact kp_none
theorem fr_f_X5_row {M : am_M} {o : Nat} {x1 : Int32} {x2 : Int32} {x3 : Int32} : kp [(600, some o, none), (601, some o, none), (602, some o, none), (609, some o, none), (703, some o, none)] M Prod.snd (f_X5_row M o x1 x2 x3) := by
  unfold f_X5_row
  refine kp_bind_v (fun r2 => ?_)
  refine kp_ite ?_ ?_
  ·
    refine kp_bind_p (kp_call fr_f_X5_refuse (by first | rfl | (simp [kpSub]; done)) (keeps.rf _ _)) (fun r4 q1 => ?_)
    exact kp_some_p q1
  ·
    refine kp_bind_v (fun r6 => ?_)
    refine kp_ite ?_ ?_
    ·
      refine kp_bind_p (kp_call fr_f_X5_refuse (by first | rfl | (simp [kpSub]; done)) (keeps.rf _ _)) (fun r8 q2 => ?_)
      exact kp_some_p q2
    ·
      refine kp_bind_v (fun r10 => ?_)
      refine kp_ite ?_ ?_
      ·
        refine kp_bind_p (kp_call fr_f_X5_refuse (by first | rfl | (simp [kpSub]; done)) (keeps.rf _ _)) (fun r26 q3 => ?_)
        exact kp_some_p q3
      ·
        refine kp_ite ?_ ?_
        ·
          refine kp_let_m (keeps.si (keeps.rf _ _) (by first | rfl | (simp [kpS]; done))) (fun M12 q4 => ?_)
          refine kp_ite ?_ ?_
          ·
            refine kp_let_m (keeps.si q4 (by first | rfl | (simp [kpS]; done))) (fun M14 q5 => ?_)
            refine kp_ite ?_ ?_
            ·
              refine kp_let_m (keeps.si q5 (by first | rfl | (simp [kpS]; done))) (fun M16 q6 => ?_)
              refine kp_bind_m (kp_call (fr_l_X5_row_67 _ _ _) (by first | rfl | (simp [kpSub]; done)) q6) (fun z22 q7 => ?_)
              exact kp_some_p q7
            ·
              exact kp_none
          ·
            exact kp_none
        ·
          exact kp_none
theorem fr_f_X5_noRow {M : am_M} {o : Nat} {x1 : Int32} : kp [(609, some o, none)] M Prod.snd (f_X5_noRow M o x1) := by
  unfold f_X5_noRow
  refine kp_bind_v (fun r2 => ?_)
  refine kp_ite ?_ ?_
  ·
    refine kp_bind_p (kp_call fr_f_X5_refuse (by first | rfl | (simp [kpSub]; done)) (keeps.rf _ _)) (fun r12 q1 => ?_)
    exact kp_some_p q1
  ·
    refine kp_ite ?_ ?_
    ·
      refine kp_ite ?_ ?_
      ·
        refine kp_bind_p (kp_call fr_f_X5_refuse (by first | rfl | (simp [kpSub]; done)) (keeps.rf _ _)) (fun r9 q2 => ?_)
        exact kp_some_p q2
      ·
        refine kp_ite ?_ ?_
        ·
          refine kp_ite ?_ ?_
          ·
            refine kp_bind_p (kp_call fr_f_X5_refuse (by first | rfl | (simp [kpSub]; done)) (keeps.rf _ _)) (fun r6 q3 => ?_)
            exact kp_some_p q3
          ·
            exact kp_some_p (keeps.rf _ _)
        ·
          exact kp_none
    ·
      exact kp_none
theorem fr_f_X5_set {M : am_M} {o : Nat} {x1 : Int32} {x2 : Int32} {x3 : Int64} : kp [(609, some o, none), (703, some o, none)] M Prod.snd (f_X5_set M o x1 x2 x3) := by
  unfold f_X5_set
  refine kp_bind_p (kp_call fr_f_X5_noRow (by first | rfl | (simp [kpSub]; done)) (keeps.rf _ _)) (fun r2 q1 => ?_)
  refine kp_let_v (fun v3 => ?_)
  refine kp_ite ?_ ?_
  ·
    refine kp_ite ?_ ?_
    ·
      refine kp_bind_v (fun r6 => ?_)
      refine kp_ite ?_ ?_
      ·
        refine kp_bind_p (kp_call fr_f_X5_refuse (by first | rfl | (simp [kpSub]; done)) q1) (fun r14 q2 => ?_)
        exact kp_some_p q2
      ·
        refine kp_ite ?_ ?_
        ·
          refine kp_ite ?_ ?_
          ·
            refine kp_bind_v (fun r10 => ?_)
            refine kp_ite ?_ ?_
            ·
              refine kp_let_m (keeps.sl q1 (by first | rfl | (simp [kpS]; done))) (fun M12 q3 => ?_)
              exact kp_some_p q3
            ·
              exact kp_none
          ·
            exact kp_none
        ·
          exact kp_none
    ·
      exact kp_none
  ·
    exact kp_some_p q1
theorem fr_f_X5_noRows {M : am_M} {o : Nat} {x1 : Int32} {x2 : Int32} {x3 : Int32} : kp [(609, some o, none)] M Prod.snd (f_X5_noRows M o x1 x2 x3) := by
  unfold f_X5_noRows
  refine kp_bind_v (fun r2 => ?_)
  refine kp_ite ?_ ?_
  ·
    refine kp_bind_p (kp_call fr_f_X5_refuse (by first | rfl | (simp [kpSub]; done)) (keeps.rf _ _)) (fun r4 q1 => ?_)
    exact kp_some_p q1
  ·
    refine kp_bind_v (fun r6 => ?_)
    refine kp_ite ?_ ?_
    ·
      refine kp_bind_p (kp_call fr_f_X5_refuse (by first | rfl | (simp [kpSub]; done)) (keeps.rf _ _)) (fun r58 q2 => ?_)
      exact kp_some_p q2
    ·
      refine kp_ite ?_ ?_
      ·
        refine kp_ite ?_ ?_
        ·
          refine kp_bind_p (kp_call fr_f_X5_refuse (by first | rfl | (simp [kpSub]; done)) (keeps.rf _ _)) (fun r9 q3 => ?_)
          exact kp_some_p q3
        ·
          refine kp_ite ?_ ?_
          ·
            refine kp_ite ?_ ?_
            ·
              refine kp_bind_p (kp_call fr_f_X5_refuse (by first | rfl | (simp [kpSub]; done)) (keeps.rf _ _)) (fun r12 q4 => ?_)
              exact kp_some_p q4
            ·
              refine kp_ite ?_ ?_
              ·
                refine kp_ite ?_ ?_
                ·
                  refine kp_ite ?_ ?_
                  ·
                    refine kp_bind_p (kp_call fr_f_X5_refuse (by first | rfl | (simp [kpSub]; done)) (keeps.rf _ _)) (fun r15 q5 => ?_)
                    exact kp_some_p q5
                  ·
                    refine kp_ite ?_ ?_
                    ·
                      refine kp_ite ?_ ?_
                      ·
                        refine kp_bind_p (kp_call fr_f_X5_refuse (by first | rfl | (simp [kpSub]; done)) (keeps.rf _ _)) (fun r18 q6 => ?_)
                        exact kp_some_p q6
                      ·
                        exact kp_some_p (keeps.rf _ _)
                    ·
                      exact kp_none
                ·
                  exact kp_none
              ·
                refine kp_ite ?_ ?_
                ·
                  refine kp_ite ?_ ?_
                  ·
                    refine kp_ite ?_ ?_
                    ·
                      refine kp_ite ?_ ?_
                      ·
                        refine kp_ite ?_ ?_
                        ·
                          refine kp_ite ?_ ?_
                          ·
                            refine kp_ite ?_ ?_
                            ·
                              refine kp_ite ?_ ?_
                              ·
                                refine kp_ite ?_ ?_
                                ·
                                  refine kp_bind_p (kp_call fr_f_X5_refuse (by first | rfl | (simp [kpSub]; done)) (keeps.rf _ _)) (fun r43 q7 => ?_)
                                  exact kp_some_p q7
                                ·
                                  refine kp_ite ?_ ?_
                                  ·
                                    refine kp_ite ?_ ?_
                                    ·
                                      refine kp_bind_p (kp_call fr_f_X5_refuse (by first | rfl | (simp [kpSub]; done)) (keeps.rf _ _)) (fun r46 q8 => ?_)
                                      exact kp_some_p q8
                                    ·
                                      exact kp_some_p (keeps.rf _ _)
                                  ·
                                    exact kp_none
                              ·
                                exact kp_none
                            ·
                              refine kp_bind_p (kp_call fr_f_X5_refuse (by first | rfl | (simp [kpSub]; done)) (keeps.rf _ _)) (fun r50 q9 => ?_)
                              exact kp_some_p q9
                          ·
                            exact kp_none
                        ·
                          exact kp_none
                      ·
                        refine kp_ite ?_ ?_
                        ·
                          refine kp_ite ?_ ?_
                          ·
                            refine kp_bind_p (kp_call fr_f_X5_refuse (by first | rfl | (simp [kpSub]; done)) (keeps.rf _ _)) (fun r33 q10 => ?_)
                            exact kp_some_p q10
                          ·
                            refine kp_ite ?_ ?_
                            ·
                              refine kp_ite ?_ ?_
                              ·
                                refine kp_bind_p (kp_call fr_f_X5_refuse (by first | rfl | (simp [kpSub]; done)) (keeps.rf _ _)) (fun r36 q11 => ?_)
                                exact kp_some_p q11
                              ·
                                exact kp_some_p (keeps.rf _ _)
                            ·
                              exact kp_none
                        ·
                          exact kp_none
                    ·
                      exact kp_none
                  ·
                    refine kp_ite ?_ ?_
                    ·
                      refine kp_ite ?_ ?_
                      ·
                        refine kp_bind_p (kp_call fr_f_X5_refuse (by first | rfl | (simp [kpSub]; done)) (keeps.rf _ _)) (fun r24 q12 => ?_)
                        exact kp_some_p q12
                      ·
                        refine kp_ite ?_ ?_
                        ·
                          refine kp_ite ?_ ?_
                          ·
                            refine kp_bind_p (kp_call fr_f_X5_refuse (by first | rfl | (simp [kpSub]; done)) (keeps.rf _ _)) (fun r27 q13 => ?_)
                            exact kp_some_p q13
                          ·
                            exact kp_some_p (keeps.rf _ _)
                        ·
                          exact kp_none
                    ·
                      exact kp_none
                ·
                  exact kp_none
          ·
            exact kp_none
      ·
        exact kp_none
theorem fr_l_X5_copy_90 {o0a : Nat} {a1 : Int32} {a2 : Int32} {a3 : Int32} {a4 : Int32} {a5 : Int32} : ∀ (n : Nat) (a7 : Int32) (M : am_M), kp [(604, some o0a, none)] M id (l_X5_copy_90 o0a a1 a2 a3 a4 a5 n a7 M) := by
  intro n
  induction n with
  | zero => intro a7 M; exact kp_none
  | succ n ih =>
    intro a7 M
    rw [l_X5_copy_90]
    refine kp_ite ?_ ?_
    ·
      exact kp_some_m (keeps.rf _ _)
    ·
      refine kp_ite ?_ ?_
      ·
        refine kp_ite ?_ ?_
        ·
          refine kp_ite ?_ ?_
          ·
            refine kp_let_m (keeps.sl (keeps.rf _ _) (by first | rfl | (simp [kpS]; done))) (fun M23 q1 => ?_)
            refine kp_let_v (fun v24 => ?_)
            exact kp_call (ih _ _) (by first | rfl | (simp [kpSub]; done)) q1
          ·
            exact kp_none
        ·
          exact kp_none
      ·
        exact kp_none
theorem fr_l_X5_copy_124 {o0a : Nat} {a2 : Int32} {a4 : Int32} {a5 : Int32} : ∀ (n : Nat) (a7 : Int32) (M : am_M), kp [(703, some o0a, none)] M id (l_X5_copy_124 o0a a2 a4 a5 n a7 M) := by
  intro n
  induction n with
  | zero => intro a7 M; exact kp_none
  | succ n ih =>
    intro a7 M
    rw [l_X5_copy_124]
    refine kp_ite ?_ ?_
    ·
      exact kp_some_m (keeps.rf _ _)
    ·
      refine kp_ite ?_ ?_
      ·
        refine kp_ite ?_ ?_
        ·
          refine kp_ite ?_ ?_
          ·
            refine kp_let_m (keeps.sl (keeps.rf _ _) (by first | rfl | (simp [kpS]; done))) (fun M32 q1 => ?_)
            refine kp_let_v (fun v33 => ?_)
            exact kp_call (ih _ _) (by first | rfl | (simp [kpSub]; done)) q1
          ·
            exact kp_none
        ·
          exact kp_none
      ·
        exact kp_none
theorem fr_f_X5_copy {M : am_M} {o : Nat} {x1 : Int32} {x2 : Int32} {x3 : Int32} {x4 : Int32} {x5 : Int32} : kp [(604, some o, none), (609, some o, none), (703, some o, none)] M Prod.snd (f_X5_copy M o x1 x2 x3 x4 x5) := by
  unfold f_X5_copy
  refine kp_bind_p (kp_call fr_f_X5_noRows (by first | rfl | (simp [kpSub]; done)) (keeps.rf _ _)) (fun r2 q1 => ?_)
  refine kp_let_v (fun v3 => ?_)
  refine kp_ite ?_ ?_
  ·
    refine kp_ite ?_ ?_
    ·
      refine kp_bind_p (kp_call fr_f_X5_refuse (by first | rfl | (simp [kpSub]; done)) q1) (fun r5 q2 => ?_)
      exact kp_some_p q2
    ·
      refine kp_ite ?_ ?_
      ·
        refine kp_bind_p (kp_call fr_f_X5_refuse (by first | rfl | (simp [kpSub]; done)) q1) (fun r7 q3 => ?_)
        exact kp_some_p q3
      ·
        refine kp_ite ?_ ?_
        ·
          refine kp_bind_p (kp_call fr_f_X5_refuse (by first | rfl | (simp [kpSub]; done)) q1) (fun r9 q4 => ?_)
          exact kp_some_p q4
        ·
          refine kp_ite ?_ ?_
          ·
            refine kp_ite ?_ ?_
            ·
              refine kp_bind_p (kp_call fr_f_X5_refuse (by first | rfl | (simp [kpSub]; done)) q1) (fun r12 q5 => ?_)
              exact kp_some_p q5
            ·
              refine kp_ite ?_ ?_
              ·
                refine kp_ite ?_ ?_
                ·
                  refine kp_bind_p (kp_call fr_f_X5_refuse (by first | rfl | (simp [kpSub]; done)) q1) (fun r15 q6 => ?_)
                  exact kp_some_p q6
                ·
                  refine kp_ite ?_ ?_
                  ·
                    refine kp_ite ?_ ?_
                    ·
                      refine kp_bind_p (kp_call fr_f_X5_refuse (by first | rfl | (simp [kpSub]; done)) q1) (fun r18 q7 => ?_)
                      exact kp_some_p q7
                    ·
                      refine kp_ite ?_ ?_
                      ·
                        refine kp_ite ?_ ?_
                        ·
                          refine kp_bind_m (kp_call (fr_l_X5_copy_90 _ _ _) (by first | rfl | (simp [kpSub]; done)) q1) (fun z26 q8 => ?_)
                          refine kp_bind_m (kp_call (fr_l_X5_copy_124 _ _ _) (by first | rfl | (simp [kpSub]; done)) q8) (fun z35 q9 => ?_)
                          exact kp_some_p q9
                        ·
                          refine kp_bind_p (kp_call fr_f_X5_refuse (by first | rfl | (simp [kpSub]; done)) q1) (fun r39 q10 => ?_)
                          exact kp_some_p q10
                      ·
                        exact kp_none
                  ·
                    exact kp_none
              ·
                exact kp_none
          ·
            exact kp_none
  ·
    exact kp_some_p q1
theorem fr_f_X5_drawing {M : am_M} {o : Nat} {x1 : Int32} {x2 : Int32} {x3 : Int32} : kp [(600, some o, none), (605, some o, none), (606, some o, none), (609, some o, none)] M Prod.snd (f_X5_drawing M o x1 x2 x3) := by
  unfold f_X5_drawing
  refine kp_bind_v (fun r2 => ?_)
  refine kp_ite ?_ ?_
  ·
    refine kp_bind_p (kp_call fr_f_X5_refuse (by first | rfl | (simp [kpSub]; done)) (keeps.rf _ _)) (fun r4 q1 => ?_)
    exact kp_some_p q1
  ·
    refine kp_bind_v (fun r6 => ?_)
    refine kp_ite ?_ ?_
    ·
      refine kp_bind_p (kp_call fr_f_X5_refuse (by first | rfl | (simp [kpSub]; done)) (keeps.rf _ _)) (fun r8 q2 => ?_)
      exact kp_some_p q2
    ·
      refine kp_bind_v (fun r10 => ?_)
      refine kp_ite ?_ ?_
      ·
        refine kp_bind_p (kp_call fr_f_X5_refuse (by first | rfl | (simp [kpSub]; done)) (keeps.rf _ _)) (fun r18 q3 => ?_)
        exact kp_some_p q3
      ·
        refine kp_ite ?_ ?_
        ·
          refine kp_let_m (keeps.si (keeps.rf _ _) (by first | rfl | (simp [kpS]; done))) (fun M12 q4 => ?_)
          refine kp_ite ?_ ?_
          ·
            refine kp_let_m (keeps.si q4 (by first | rfl | (simp [kpS]; done))) (fun M14 q5 => ?_)
            refine kp_ite ?_ ?_
            ·
              refine kp_let_m (keeps.si q5 (by first | rfl | (simp [kpS]; done))) (fun M16 q6 => ?_)
              exact kp_some_p q6
            ·
              exact kp_none
          ·
            exact kp_none
        ·
          exact kp_none
theorem fr_l_X5_count_13 {o0a : Nat} {a1 : Int32} {a2 : Int32} {a3 : Int32} : ∀ (n : Nat) (a4 : Int32) (M : am_M), kp [(730, some o0a, none)] M id (l_X5_count_13 o0a a1 a2 a3 n a4 M) := by
  intro n
  induction n with
  | zero => intro a4 M; exact kp_none
  | succ n ih =>
    intro a4 M
    rw [l_X5_count_13]
    refine kp_ite ?_ ?_
    ·
      exact kp_some_m (keeps.rf _ _)
    ·
      refine kp_bind_v (fun z1 => ?_)
      refine kp_ite ?_ ?_
      ·
        refine kp_ite ?_ ?_
        ·
          refine kp_ite ?_ ?_
          ·
            refine kp_bind_v (fun z20 => ?_)
            refine kp_ite ?_ ?_
            ·
              refine kp_let_m (keeps.sl (keeps.rf _ _) (by first | rfl | (simp [kpS]; done))) (fun M29 q1 => ?_)
              refine kp_let_v (fun v30 => ?_)
              exact kp_call (ih _ _) (by first | rfl | (simp [kpSub]; done)) q1
            ·
              exact kp_none
          ·
            exact kp_none
        ·
          exact kp_none
      ·
        exact kp_none
theorem fr_l_X5_count_2 {o0a : Nat} {a1 : Int32} {a2 : Int32} : ∀ (n : Nat) (a3 : Int32) (M : am_M), kp [(730, some o0a, none)] M id (l_X5_count_2 o0a a1 a2 n a3 M) := by
  intro n
  induction n with
  | zero => intro a3 M; exact kp_none
  | succ n ih =>
    intro a3 M
    rw [l_X5_count_2]
    refine kp_ite ?_ ?_
    ·
      exact kp_some_m (keeps.rf _ _)
    ·
      refine kp_bind_m (kp_call (fr_l_X5_count_13 _ _ _) (by first | rfl | (simp [kpSub]; done)) (keeps.rf _ _)) (fun z32 q1 => ?_)
      refine kp_let_v (fun v35 => ?_)
      exact kp_call (ih _ _) (by first | rfl | (simp [kpSub]; done)) q1
theorem fr_f_X5_count {M : am_M} {o : Nat} {x1 : Int32} {x2 : Int32} : kp [(730, some o, none)] M Prod.snd (f_X5_count M o x1 x2) := by
  unfold f_X5_count
  refine kp_bind_m (kp_call (fr_l_X5_count_2 _ _ _) (by first | rfl | (simp [kpSub]; done)) (keeps.rf _ _)) (fun z37 q1 => ?_)
  refine kp_bind_v (fun z45 => ?_)
  exact kp_some_p q1
theorem fr_l_X5_countBack_11 {o0a : Nat} {a1 : Int32} : ∀ (n : Nat) (a2 : Int32) (M : am_M), kp [(731, some o0a, none)] M id (l_X5_countBack_11 o0a a1 n a2 M) := by
  intro n
  induction n with
  | zero => intro a2 M; exact kp_none
  | succ n ih =>
    intro a2 M
    rw [l_X5_countBack_11]
    refine kp_ite ?_ ?_
    ·
      exact kp_some_m (keeps.rf _ _)
    ·
      refine kp_bind_v (fun z2 => ?_)
      refine kp_ite ?_ ?_
      ·
        refine kp_ite ?_ ?_
        ·
          refine kp_ite ?_ ?_
          ·
            refine kp_bind_v (fun z13 => ?_)
            refine kp_ite ?_ ?_
            ·
              refine kp_let_m (keeps.sl (keeps.rf _ _) (by first | rfl | (simp [kpS]; done))) (fun M18 q1 => ?_)
              refine kp_let_v (fun v19 => ?_)
              exact kp_call (ih _ _) (by first | rfl | (simp [kpSub]; done)) q1
            ·
              exact kp_none
          ·
            exact kp_none
        ·
          exact kp_none
      ·
        exact kp_none
theorem fr_l_X5_countBack_5 {o0a : Nat} : ∀ (n : Nat) (a1 : Int32) (M : am_M), kp [(731, some o0a, none)] M id (l_X5_countBack_5 o0a n a1 M) := by
  intro n
  induction n with
  | zero => intro a1 M; exact kp_none
  | succ n ih =>
    intro a1 M
    rw [l_X5_countBack_5]
    refine kp_ite ?_ ?_
    ·
      exact kp_some_m (keeps.rf _ _)
    ·
      refine kp_bind_m (kp_call (fr_l_X5_countBack_11 _ _ _) (by first | rfl | (simp [kpSub]; done)) (keeps.rf _ _)) (fun z21 q1 => ?_)
      refine kp_let_v (fun v24 => ?_)
      exact kp_call (ih _ _) (by first | rfl | (simp [kpSub]; done)) q1
theorem fr_f_X5_countBack {M : am_M} {o : Nat} : kp [(731, some o, none)] M id (f_X5_countBack M o) := by
  unfold f_X5_countBack
  refine kp_let_v (fun v1 => ?_)
  refine kp_bind_m (kp_call (fr_l_X5_countBack_5 _ _ _) (by first | rfl | (simp [kpSub]; done)) (keeps.rf _ _)) (fun z26 q1 => ?_)
  exact kp_some_m q1
theorem fr_l_X5_countSurely_40 {o0a : Nat} {a1 : Int32} {a2 : Int32} {a5 : Int32} : ∀ (n : Nat) (a3 : Int64) (a6 : Int32) (M : am_M), kp [(730, some o0a, none)] M Prod.snd (l_X5_countSurely_40 o0a a1 a2 a5 n a3 a6 M) := by
  intro n
  induction n with
  | zero => intro a3 a6 M; exact kp_none
  | succ n ih =>
    intro a3 a6 M
    rw [l_X5_countSurely_40]
    refine kp_ite ?_ ?_
    ·
      exact kp_some_p (keeps.rf _ _)
    ·
      refine kp_bind_v (fun z9 => ?_)
      refine kp_ite ?_ ?_
      ·
        refine kp_ite ?_ ?_
        ·
          refine kp_ite ?_ ?_
          ·
            refine kp_bind_v (fun z28 => ?_)
            refine kp_ite ?_ ?_
            ·
              refine kp_let_m (keeps.sl (keeps.rf _ _) (by first | rfl | (simp [kpS]; done))) (fun M35 q1 => ?_)
              refine kp_bind_v (fun r37 => ?_)
              refine kp_bind_p ?_ (fun z38 q2 => ?_)
              ·
                refine kp_ite ?_ ?_
                ·
                  refine kp_ite ?_ ?_
                  ·
                    exact kp_some_p q1
                  ·
                    refine kp_ite ?_ ?_
                    ·
                      refine kp_ite ?_ ?_
                      ·
                        refine kp_ite ?_ ?_
                        ·
                          refine kp_ite ?_ ?_
                          ·
                            refine kp_ite ?_ ?_
                            ·
                              refine kp_let_v (fun v53 => ?_)
                              refine kp_ite ?_ ?_
                              ·
                                refine kp_ite ?_ ?_
                                ·
                                  refine kp_let_m (keeps.sl q1 (by first | rfl | (simp [kpS]; done))) (fun M56 q3 => ?_)
                                  exact kp_some_p q3
                                ·
                                  exact kp_none
                              ·
                                exact kp_none
                            ·
                              exact kp_none
                          ·
                            exact kp_none
                        ·
                          exact kp_none
                      ·
                        exact kp_none
                    ·
                      exact kp_some_p q1
                ·
                  refine kp_ite ?_ ?_
                  ·
                    refine kp_ite ?_ ?_
                    ·
                      refine kp_ite ?_ ?_
                      ·
                        refine kp_ite ?_ ?_
                        ·
                          refine kp_let_v (fun v45 => ?_)
                          refine kp_ite ?_ ?_
                          ·
                            refine kp_ite ?_ ?_
                            ·
                              refine kp_let_m (keeps.sl q1 (by first | rfl | (simp [kpS]; done))) (fun M48 q4 => ?_)
                              exact kp_some_p q4
                            ·
                              exact kp_none
                          ·
                            exact kp_none
                        ·
                          exact kp_none
                      ·
                        exact kp_none
                    ·
                      exact kp_none
                  ·
                    exact kp_none
              refine kp_let_v (fun v60 => ?_)
              exact kp_call (ih _ _ _) (by first | rfl | (simp [kpSub]; done)) q2
            ·
              exact kp_none
          ·
            exact kp_none
        ·
          exact kp_none
      ·
        exact kp_none
theorem fr_l_X5_countSurely_28 {o0a : Nat} {a1 : Int32} {a2 : Int32} : ∀ (n : Nat) (a3 : Int64) (a5 : Int32) (M : am_M), kp [(730, some o0a, none)] M Prod.snd (l_X5_countSurely_28 o0a a1 a2 n a3 a5 M) := by
  intro n
  induction n with
  | zero => intro a3 a5 M; exact kp_none
  | succ n ih =>
    intro a3 a5 M
    rw [l_X5_countSurely_28]
    refine kp_ite ?_ ?_
    ·
      exact kp_some_p (keeps.rf _ _)
    ·
      refine kp_bind_p (kp_call (fr_l_X5_countSurely_40 _ _ _ _) (by first | rfl | (simp [kpSub]; done)) (keeps.rf _ _)) (fun z62 q1 => ?_)
      refine kp_let_v (fun v65 => ?_)
      exact kp_call (ih _ _ _) (by first | rfl | (simp [kpSub]; done)) q1
theorem fr_f_X5_countSurely {M : am_M} {o : Nat} {x1 : Int32} : kp [(730, some o, none), (731, some o, none)] M Prod.snd (f_X5_countSurely M o x1) := by
  unfold f_X5_countSurely
  refine kp_bind_v (fun r2 => ?_)
  refine kp_bind_v (fun z3 => ?_)
  refine kp_bind_m (kp_call fr_f_X5_countBack (by first | rfl | (simp [kpSub]; done)) (keeps.rf _ _)) (fun r8 q1 => ?_)
  refine kp_bind_p (kp_call (fr_l_X5_countSurely_28 _ _ _ _) (by first | rfl | (simp [kpSub]; done)) q1) (fun z67 q2 => ?_)
  exact kp_some_p q2
theorem fr_l_X5_seeHeaps_18 {o0a : Nat} {a1 : Int32} : ∀ (n : Nat) (a2 : Int32) (M : am_M), kp [(728, some o0a, none)] M id (l_X5_seeHeaps_18 o0a a1 n a2 M) := by
  intro n
  induction n with
  | zero => intro a2 M; exact kp_none
  | succ n ih =>
    intro a2 M
    rw [l_X5_seeHeaps_18]
    refine kp_ite ?_ ?_
    ·
      exact kp_some_m (keeps.rf _ _)
    ·
      refine kp_ite ?_ ?_
      ·
        refine kp_ite ?_ ?_
        ·
          refine kp_let_m (keeps.si (keeps.rf _ _) (by first | rfl | (simp [kpS]; done))) (fun M6 q1 => ?_)
          refine kp_let_v (fun v7 => ?_)
          exact kp_call (ih _ _) (by first | rfl | (simp [kpSub]; done)) q1
        ·
          exact kp_none
      ·
        exact kp_none
theorem fr_l_X5_seeHeaps_10 {o0a : Nat} : ∀ (n : Nat) (a1 : Int32) (M : am_M), kp [(728, some o0a, none)] M id (l_X5_seeHeaps_10 o0a n a1 M) := by
  intro n
  induction n with
  | zero => intro a1 M; exact kp_none
  | succ n ih =>
    intro a1 M
    rw [l_X5_seeHeaps_10]
    refine kp_ite ?_ ?_
    ·
      exact kp_some_m (keeps.rf _ _)
    ·
      refine kp_bind_m (kp_call (fr_l_X5_seeHeaps_18 _ _ _) (by first | rfl | (simp [kpSub]; done)) (keeps.rf _ _)) (fun z9 q1 => ?_)
      refine kp_let_v (fun v12 => ?_)
      exact kp_call (ih _ _) (by first | rfl | (simp [kpSub]; done)) q1
theorem fr_l_X5_seeHeaps_106 {o0a : Nat} {a1 : Int32} {a2 : Int32} {a3 : Int32} {a4 : Int32} {a5 : Int32} {a6 : Int32} : ∀ (n : Nat) (a7 : Int32) (M : am_M), kp [(728, some o0a, none)] M id (l_X5_seeHeaps_106 o0a a1 a2 a3 a4 a5 a6 n a7 M) := by
  intro n
  induction n with
  | zero => intro a7 M; exact kp_none
  | succ n ih =>
    intro a7 M
    rw [l_X5_seeHeaps_106]
    refine kp_ite ?_ ?_
    ·
      refine kp_ite ?_ ?_
      ·
        exact kp_some_m (keeps.rf _ _)
      ·
        refine kp_ite ?_ ?_
        ·
          exact kp_some_m (keeps.rf _ _)
        ·
          refine kp_ite ?_ ?_
          ·
            refine kp_ite ?_ ?_
            ·
              refine kp_bind_v (fun z26 => ?_)
              refine kp_ite ?_ ?_
              ·
                refine kp_ite ?_ ?_
                ·
                  refine kp_let_m (keeps.si (keeps.rf _ _) (by first | rfl | (simp [kpS]; done))) (fun M32 q1 => ?_)
                  refine kp_let_v (fun v33 => ?_)
                  exact kp_call (ih _ _) (by first | rfl | (simp [kpSub]; done)) q1
                ·
                  exact kp_none
              ·
                exact kp_none
            ·
              exact kp_none
          ·
            exact kp_none
    ·
      exact kp_none
theorem fr_l_X5_seeHeaps_96 {o0a : Nat} {a1 : Int32} {a2 : Int32} {a3 : Int32} {a4 : Int32} {a5 : Int32} : ∀ (n : Nat) (a6 : Int32) (M : am_M), kp [(728, some o0a, none)] M id (l_X5_seeHeaps_96 o0a a1 a2 a3 a4 a5 n a6 M) := by
  intro n
  induction n with
  | zero => intro a6 M; exact kp_none
  | succ n ih =>
    intro a6 M
    rw [l_X5_seeHeaps_96]
    refine kp_ite ?_ ?_
    ·
      exact kp_some_m (keeps.rf _ _)
    ·
      refine kp_bind_m (kp_call (fr_l_X5_seeHeaps_106 _ _ _) (by first | rfl | (simp [kpSub]; done)) (keeps.rf _ _)) (fun z36 q1 => ?_)
      refine kp_let_v (fun v39 => ?_)
      exact kp_call (ih _ _) (by first | rfl | (simp [kpSub]; done)) q1
theorem fr_l_X5_seeHeaps_60 {o0a : Nat} : ∀ (n : Nat) (a1 : Int32) (a2 : Int32) (a3 : Int32) (M : am_M), kp [(728, some o0a, none)] M id (l_X5_seeHeaps_60 o0a n a1 a2 a3 M) := by
  intro n
  induction n with
  | zero => intro a1 a2 a3 M; exact kp_none
  | succ n ih =>
    intro a1 a2 a3 M
    rw [l_X5_seeHeaps_60]
    refine kp_ite ?_ ?_
    ·
      exact kp_some_m (keeps.rf _ _)
    ·
      refine kp_ite ?_ ?_
      ·
        refine kp_let_v (fun v19 => ?_)
        refine kp_ite ?_ ?_
        ·
          refine kp_ite ?_ ?_
          ·
            refine kp_let_v (fun v22 => ?_)
            refine kp_bind_m (kp_call (fr_l_X5_seeHeaps_96 _ _ _) (by first | rfl | (simp [kpSub]; done)) (keeps.rf _ _)) (fun z41 q1 => ?_)
            refine kp_let_v (fun v44 => ?_)
            refine kp_ite ?_ ?_
            ·
              refine kp_let_v (fun v46 => ?_)
              refine kp_let_v (fun v47 => ?_)
              exact kp_call (ih _ _ _ _) (by first | rfl | (simp [kpSub]; done)) q1
            ·
              exact kp_none
          ·
            exact kp_none
        ·
          exact kp_none
      ·
        exact kp_none
theorem fr_f_X5_seeHeaps {M : am_M} {o : Nat} : kp [(5, some o, some 29), (728, some o, none)] M id (f_X5_seeHeaps M o) := by
  unfold f_X5_seeHeaps
  refine kp_bind_v (fun r2 => ?_)
  refine kp_let_m (keeps.si (keeps.rf _ _) (by first | rfl | (simp [kpS]; done))) (fun M3 q1 => ?_)
  refine kp_bind_m (kp_call (fr_l_X5_seeHeaps_10 _ _ _) (by first | rfl | (simp [kpSub]; done)) q1) (fun z14 q2 => ?_)
  refine kp_let_m (keeps.si q2 (by first | rfl | (simp [kpS]; done))) (fun M17 q3 => ?_)
  refine kp_bind_m (kp_call (fr_l_X5_seeHeaps_60 _ _ _ _ _) (by first | rfl | (simp [kpSub]; done)) q3) (fun z49 q4 => ?_)
  exact kp_some_m q4
theorem fr_l_X5_seeBack_21 {o0a : Nat} {a1 : Int32} {a2 : Int32} : ∀ (n : Nat) (a3 : Int32) (M : am_M), kp [(735, some o0a, none)] M id (l_X5_seeBack_21 o0a a1 a2 n a3 M) := by
  intro n
  induction n with
  | zero => intro a3 M; exact kp_none
  | succ n ih =>
    intro a3 M
    rw [l_X5_seeBack_21]
    refine kp_ite ?_ ?_
    ·
      exact kp_some_m (keeps.rf _ _)
    ·
      refine kp_ite ?_ ?_
      ·
        refine kp_bind_v (fun z6 => ?_)
        refine kp_ite ?_ ?_
        ·
          refine kp_ite ?_ ?_
          ·
            refine kp_let_m (keeps.si (keeps.rf _ _) (by first | rfl | (simp [kpS]; done))) (fun M15 q1 => ?_)
            refine kp_let_v (fun v16 => ?_)
            exact kp_call (ih _ _) (by first | rfl | (simp [kpSub]; done)) q1
          ·
            exact kp_none
        ·
          exact kp_none
      ·
        exact kp_none
theorem fr_l_X5_seeBack_11 {o0a : Nat} {a1 : Int32} : ∀ (n : Nat) (a2 : Int32) (M : am_M), kp [(735, some o0a, none)] M id (l_X5_seeBack_11 o0a a1 n a2 M) := by
  intro n
  induction n with
  | zero => intro a2 M; exact kp_none
  | succ n ih =>
    intro a2 M
    rw [l_X5_seeBack_11]
    refine kp_ite ?_ ?_
    ·
      exact kp_some_m (keeps.rf _ _)
    ·
      refine kp_bind_m (kp_call (fr_l_X5_seeBack_21 _ _ _) (by first | rfl | (simp [kpSub]; done)) (keeps.rf _ _)) (fun z18 q1 => ?_)
      refine kp_let_v (fun v21 => ?_)
      exact kp_call (ih _ _) (by first | rfl | (simp [kpSub]; done)) q1
theorem fr_l_X5_seeBack_87 {o0a : Nat} {a2 : Int32} : ∀ (n : Nat) (a3 : Int32) (M : am_M), kp [(728, some o0a, none)] M id (l_X5_seeBack_87 o0a a2 n a3 M) := by
  intro n
  induction n with
  | zero => intro a3 M; exact kp_none
  | succ n ih =>
    intro a3 M
    rw [l_X5_seeBack_87]
    refine kp_ite ?_ ?_
    ·
      exact kp_some_m (keeps.rf _ _)
    ·
      refine kp_ite ?_ ?_
      ·
        refine kp_ite ?_ ?_
        ·
          refine kp_ite ?_ ?_
          ·
            refine kp_ite ?_ ?_
            ·
              refine kp_ite ?_ ?_
              ·
                refine kp_let_m (keeps.si (keeps.rf _ _) (by first | rfl | (simp [kpS]; done))) (fun M31 q1 => ?_)
                refine kp_let_v (fun v32 => ?_)
                exact kp_call (ih _ _) (by first | rfl | (simp [kpSub]; done)) q1
              ·
                exact kp_none
            ·
              exact kp_none
          ·
            exact kp_none
        ·
          exact kp_none
      ·
        exact kp_none
theorem fr_l_X5_seeBack_77 {o0a : Nat} : ∀ (n : Nat) (a2 : Int32) (M : am_M), kp [(728, some o0a, none)] M id (l_X5_seeBack_77 o0a n a2 M) := by
  intro n
  induction n with
  | zero => intro a2 M; exact kp_none
  | succ n ih =>
    intro a2 M
    rw [l_X5_seeBack_77]
    refine kp_ite ?_ ?_
    ·
      exact kp_some_m (keeps.rf _ _)
    ·
      refine kp_bind_m (kp_call (fr_l_X5_seeBack_87 _ _ _) (by first | rfl | (simp [kpSub]; done)) (keeps.rf _ _)) (fun z34 q1 => ?_)
      refine kp_let_v (fun v37 => ?_)
      exact kp_call (ih _ _) (by first | rfl | (simp [kpSub]; done)) q1
theorem fr_f_X5_seeBack {M : am_M} {o : Nat} : kp [(5, some o, some 29), (728, some o, none), (735, some o, none)] M id (f_X5_seeBack M o) := by
  unfold f_X5_seeBack
  refine kp_bind_m (kp_call fr_f_X5_seeHeaps (by first | rfl | (simp [kpSub]; done)) (keeps.rf _ _)) (fun r2 q1 => ?_)
  refine kp_bind_v (fun r4 => ?_)
  refine kp_bind_m (kp_call (fr_l_X5_seeBack_11 _ _ _) (by first | rfl | (simp [kpSub]; done)) q1) (fun z23 q2 => ?_)
  refine kp_bind_m (kp_call (fr_l_X5_seeBack_77 _ _ _) (by first | rfl | (simp [kpSub]; done)) q2) (fun z39 q3 => ?_)
  exact kp_some_m q3
theorem fr_l_X5_seeOneHeap_25 {o0a : Nat} {a1 : Int32} {a2 : Int32} : ∀ (n : Nat) (a3 : Int32) (M : am_M), kp [(728, some o0a, none)] M id (l_X5_seeOneHeap_25 o0a a1 a2 n a3 M) := by
  intro n
  induction n with
  | zero => intro a3 M; exact kp_none
  | succ n ih =>
    intro a3 M
    rw [l_X5_seeOneHeap_25]
    refine kp_ite ?_ ?_
    ·
      exact kp_some_m (keeps.rf _ _)
    ·
      refine kp_ite ?_ ?_
      ·
        refine kp_bind_v (fun z7 => ?_)
        refine kp_ite ?_ ?_
        ·
          refine kp_ite ?_ ?_
          ·
            refine kp_let_m (keeps.si (keeps.rf _ _) (by first | rfl | (simp [kpS]; done))) (fun M15 q1 => ?_)
            refine kp_let_v (fun v16 => ?_)
            exact kp_call (ih _ _) (by first | rfl | (simp [kpSub]; done)) q1
          ·
            exact kp_none
        ·
          exact kp_none
      ·
        exact kp_none
theorem fr_l_X5_seeOneHeap_15 {o0a : Nat} {a1 : Int32} : ∀ (n : Nat) (a2 : Int32) (M : am_M), kp [(728, some o0a, none)] M id (l_X5_seeOneHeap_15 o0a a1 n a2 M) := by
  intro n
  induction n with
  | zero => intro a2 M; exact kp_none
  | succ n ih =>
    intro a2 M
    rw [l_X5_seeOneHeap_15]
    refine kp_ite ?_ ?_
    ·
      exact kp_some_m (keeps.rf _ _)
    ·
      refine kp_bind_m (kp_call (fr_l_X5_seeOneHeap_25 _ _ _) (by first | rfl | (simp [kpSub]; done)) (keeps.rf _ _)) (fun z18 q1 => ?_)
      refine kp_let_v (fun v21 => ?_)
      exact kp_call (ih _ _) (by first | rfl | (simp [kpSub]; done)) q1
theorem fr_f_X5_seeOneHeap {M : am_M} {o : Nat} : kp [(5, some o, some 29), (728, some o, none)] M id (f_X5_seeOneHeap M o) := by
  unfold f_X5_seeOneHeap
  refine kp_bind_v (fun r2 => ?_)
  refine kp_let_m (keeps.si (keeps.rf _ _) (by first | rfl | (simp [kpS]; done))) (fun M3 q1 => ?_)
  refine kp_bind_v (fun r5 => ?_)
  refine kp_bind_m (kp_call (fr_l_X5_seeOneHeap_15 _ _ _) (by first | rfl | (simp [kpSub]; done)) q1) (fun z23 q2 => ?_)
  exact kp_some_m q2
theorem fr_f_X5_drawn {M : am_M} {o : Nat} {x1 : Int32} {x2 : Int32} : kp [(5, some o, some 29), (728, some o, none), (730, some o, none), (731, some o, none), (735, some o, none)] M Prod.snd (f_X5_drawn M o x1 x2) := by
  unfold f_X5_drawn
  refine kp_ite ?_ ?_
  ·
    refine kp_bind_m (kp_call fr_f_X5_seeOneHeap (by first | rfl | (simp [kpSub]; done)) (keeps.rf _ _)) (fun r3 q1 => ?_)
    refine kp_bind_p (kp_call fr_f_X5_count (by first | rfl | (simp [kpSub]; done)) q1) (fun r5 q2 => ?_)
    exact kp_some_p q2
  ·
    refine kp_ite ?_ ?_
    ·
      refine kp_bind_m (kp_call fr_f_X5_seeHeaps (by first | rfl | (simp [kpSub]; done)) (keeps.rf _ _)) (fun r8 q3 => ?_)
      refine kp_bind_p (kp_call fr_f_X5_count (by first | rfl | (simp [kpSub]; done)) q3) (fun r10 q4 => ?_)
      exact kp_some_p q4
    ·
      refine kp_ite ?_ ?_
      ·
        refine kp_bind_m (kp_call fr_f_X5_seeHeaps (by first | rfl | (simp [kpSub]; done)) (keeps.rf _ _)) (fun r13 q5 => ?_)
        refine kp_bind_p (kp_call fr_f_X5_count (by first | rfl | (simp [kpSub]; done)) q5) (fun r15 q6 => ?_)
        exact kp_some_p q6
      ·
        refine kp_ite ?_ ?_
        ·
          refine kp_bind_m (kp_call fr_f_X5_seeBack (by first | rfl | (simp [kpSub]; done)) (keeps.rf _ _)) (fun r18 q7 => ?_)
          refine kp_bind_p (kp_call fr_f_X5_count (by first | rfl | (simp [kpSub]; done)) q7) (fun r20 q8 => ?_)
          exact kp_some_p q8
        ·
          refine kp_ite ?_ ?_
          ·
            refine kp_bind_m (kp_call fr_f_X5_seeHeaps (by first | rfl | (simp [kpSub]; done)) (keeps.rf _ _)) (fun r23 q9 => ?_)
            refine kp_bind_p (kp_call fr_f_X5_countSurely (by first | rfl | (simp [kpSub]; done)) q9) (fun r25 q10 => ?_)
            exact kp_some_p q10
          ·
            refine kp_bind_m (kp_call fr_f_X5_seeOneHeap (by first | rfl | (simp [kpSub]; done)) (keeps.rf _ _)) (fun r27 q11 => ?_)
            refine kp_bind_p (kp_call fr_f_X5_count (by first | rfl | (simp [kpSub]; done)) q11) (fun r29 q12 => ?_)
            refine kp_bind_p (kp_call fr_f_X5_count (by first | rfl | (simp [kpSub]; done)) q12) (fun r31 q13 => ?_)
            exact kp_some_p q13
theorem fr_f_X5_says {M : am_M} {o : Nat} {x1 : Int32} {x2 : Int32} : kp [(5, some o, some 29), (609, some o, none), (728, some o, none), (730, some o, none), (731, some o, none), (735, some o, none)] M Prod.snd (f_X5_says M o x1 x2) := by
  unfold f_X5_says
  refine kp_bind_v (fun r2 => ?_)
  refine kp_ite ?_ ?_
  ·
    refine kp_bind_p (kp_call fr_f_X5_refuse (by first | rfl | (simp [kpSub]; done)) (keeps.rf _ _)) (fun r4 q1 => ?_)
    exact kp_some_p q1
  ·
    refine kp_bind_v (fun r6 => ?_)
    refine kp_ite ?_ ?_
    ·
      refine kp_bind_p (kp_call fr_f_X5_refuse (by first | rfl | (simp [kpSub]; done)) (keeps.rf _ _)) (fun r40 q2 => ?_)
      exact kp_some_p q2
    ·
      refine kp_ite ?_ ?_
      ·
        refine kp_ite ?_ ?_
        ·
          refine kp_bind_p (kp_call fr_f_X5_refuse (by first | rfl | (simp [kpSub]; done)) (keeps.rf _ _)) (fun r9 q3 => ?_)
          exact kp_some_p q3
        ·
          refine kp_ite ?_ ?_
          ·
            refine kp_ite ?_ ?_
            ·
              refine kp_ite ?_ ?_
              ·
                refine kp_bind_v (fun r23 => ?_)
                refine kp_ite ?_ ?_
                ·
                  refine kp_bind_p (kp_call fr_f_X5_refuse (by first | rfl | (simp [kpSub]; done)) (keeps.rf _ _)) (fun r35 q4 => ?_)
                  exact kp_some_p q4
                ·
                  refine kp_ite ?_ ?_
                  ·
                    refine kp_ite ?_ ?_
                    ·
                      refine kp_bind_p (kp_call fr_f_X5_refuse (by first | rfl | (simp [kpSub]; done)) (keeps.rf _ _)) (fun r32 q5 => ?_)
                      exact kp_some_p q5
                    ·
                      refine kp_ite ?_ ?_
                      ·
                        refine kp_ite ?_ ?_
                        ·
                          exact kp_some_p (keeps.rf _ _)
                        ·
                          exact kp_none
                      ·
                        refine kp_ite ?_ ?_
                        ·
                          refine kp_ite ?_ ?_
                          ·
                            refine kp_bind_p (kp_call fr_f_X5_drawn (by first | rfl | (simp [kpSub]; done)) (keeps.rf _ _)) (fun r28 q6 => ?_)
                            exact kp_some_p q6
                          ·
                            exact kp_none
                        ·
                          exact kp_none
                  ·
                    exact kp_none
              ·
                exact kp_none
            ·
              refine kp_ite ?_ ?_
              ·
                refine kp_ite ?_ ?_
                ·
                  refine kp_bind_p (kp_call fr_f_X5_refuse (by first | rfl | (simp [kpSub]; done)) (keeps.rf _ _)) (fun r19 q7 => ?_)
                  exact kp_some_p q7
                ·
                  refine kp_ite ?_ ?_
                  ·
                    refine kp_ite ?_ ?_
                    ·
                      exact kp_some_p (keeps.rf _ _)
                    ·
                      exact kp_none
                  ·
                    refine kp_ite ?_ ?_
                    ·
                      refine kp_ite ?_ ?_
                      ·
                        refine kp_bind_p (kp_call fr_f_X5_drawn (by first | rfl | (simp [kpSub]; done)) (keeps.rf _ _)) (fun r15 q8 => ?_)
                        exact kp_some_p q8
                      ·
                        exact kp_none
                    ·
                      exact kp_none
              ·
                exact kp_none
          ·
            exact kp_none
      ·
        exact kp_none
theorem fr_f_X5_addHeap {M : am_M} {o : Nat} {x1 : Int32} {x2 : Int32} : kp [(5, some o, some 10), (611, some o, none), (612, some o, none), (613, some o, none)] M id (f_X5_addHeap M o x1 x2) := by
  unfold f_X5_addHeap
  refine kp_ite ?_ ?_
  ·
    refine kp_let_m (keeps.si (keeps.rf _ _) (by first | rfl | (simp [kpS]; done))) (fun M2 q1 => ?_)
    refine kp_ite ?_ ?_
    ·
      refine kp_let_m (keeps.si q1 (by first | rfl | (simp [kpS]; done))) (fun M4 q2 => ?_)
      refine kp_ite ?_ ?_
      ·
        refine kp_let_m (keeps.si q2 (by first | rfl | (simp [kpS]; done))) (fun M6 q3 => ?_)
        refine kp_let_m (keeps.si q3 (by first | rfl | (simp [kpS]; done))) (fun M7 q4 => ?_)
        exact kp_some_m q4
      ·
        exact kp_none
    ·
      exact kp_none
  ·
    exact kp_none
theorem fr_f_X5_heap {M : am_M} {o : Nat} {x1 : Int32} {x2 : Int32} : kp [(5, some o, some 10), (609, some o, none), (611, some o, none), (612, some o, none), (613, some o, none)] M Prod.snd (f_X5_heap M o x1 x2) := by
  unfold f_X5_heap
  refine kp_bind_v (fun r2 => ?_)
  refine kp_ite ?_ ?_
  ·
    refine kp_bind_p (kp_call fr_f_X5_refuse (by first | rfl | (simp [kpSub]; done)) (keeps.rf _ _)) (fun r4 q1 => ?_)
    exact kp_some_p q1
  ·
    refine kp_bind_v (fun r6 => ?_)
    refine kp_ite ?_ ?_
    ·
      refine kp_bind_p (kp_call fr_f_X5_refuse (by first | rfl | (simp [kpSub]; done)) (keeps.rf _ _)) (fun r8 q2 => ?_)
      exact kp_some_p q2
    ·
      refine kp_ite ?_ ?_
      ·
        refine kp_bind_p (kp_call fr_f_X5_refuse (by first | rfl | (simp [kpSub]; done)) (keeps.rf _ _)) (fun r23 q3 => ?_)
        exact kp_some_p q3
      ·
        refine kp_ite ?_ ?_
        ·
          refine kp_ite ?_ ?_
          ·
            refine kp_bind_p (kp_call fr_f_X5_refuse (by first | rfl | (simp [kpSub]; done)) (keeps.rf _ _)) (fun r10 q4 => ?_)
            exact kp_some_p q4
          ·
            refine kp_bind_v (fun r12 => ?_)
            refine kp_ite ?_ ?_
            ·
              refine kp_bind_m (kp_call fr_f_X5_addHeap (by first | rfl | (simp [kpSub]; done)) (keeps.rf _ _)) (fun r14 q5 => ?_)
              exact kp_some_p q5
            ·
              refine kp_bind_p (kp_call fr_f_X5_refuse (by first | rfl | (simp [kpSub]; done)) (keeps.rf _ _)) (fun r16 q6 => ?_)
              exact kp_some_p q6
        ·
          refine kp_bind_p (kp_call fr_f_X5_refuse (by first | rfl | (simp [kpSub]; done)) (keeps.rf _ _)) (fun r20 q7 => ?_)
          exact kp_some_p q7
theorem fr_f_X5_fact {M : am_M} {o : Nat} {x1 : Int32} {x2 : Int32} {x3 : Int32} : kp [(5, some o, some 14), (609, some o, none), (715, some o, none)] M Prod.snd (f_X5_fact M o x1 x2 x3) := by
  unfold f_X5_fact
  refine kp_bind_v (fun r2 => ?_)
  refine kp_ite ?_ ?_
  ·
    refine kp_bind_p (kp_call fr_f_X5_refuse (by first | rfl | (simp [kpSub]; done)) (keeps.rf _ _)) (fun r4 q1 => ?_)
    exact kp_some_p q1
  ·
    refine kp_bind_v (fun r6 => ?_)
    refine kp_ite ?_ ?_
    ·
      refine kp_bind_p (kp_call fr_f_X5_refuse (by first | rfl | (simp [kpSub]; done)) (keeps.rf _ _)) (fun r8 q2 => ?_)
      exact kp_some_p q2
    ·
      refine kp_bind_v (fun r10 => ?_)
      refine kp_ite ?_ ?_
      ·
        refine kp_bind_p (kp_call fr_f_X5_refuse (by first | rfl | (simp [kpSub]; done)) (keeps.rf _ _)) (fun r22 q3 => ?_)
        exact kp_some_p q3
      ·
        refine kp_ite ?_ ?_
        ·
          refine kp_bind_p (kp_call fr_f_X5_refuse (by first | rfl | (simp [kpSub]; done)) (keeps.rf _ _)) (fun r19 q4 => ?_)
          exact kp_some_p q4
        ·
          refine kp_ite ?_ ?_
          ·
            refine kp_let_m (keeps.si (keeps.rf _ _) (by first | rfl | (simp [kpS]; done))) (fun M12 q5 => ?_)
            refine kp_ite ?_ ?_
            ·
              refine kp_let_m (keeps.si q5 (by first | rfl | (simp [kpS]; done))) (fun M14 q6 => ?_)
              refine kp_ite ?_ ?_
              ·
                refine kp_let_m (keeps.si q6 (by first | rfl | (simp [kpS]; done))) (fun M16 q7 => ?_)
                refine kp_let_m (keeps.si q7 (by first | rfl | (simp [kpS]; done))) (fun M17 q8 => ?_)
                exact kp_some_p q8
              ·
                exact kp_none
            ·
              exact kp_none
          ·
            exact kp_none
theorem fr_l_X5_forget_45 {o0a : Nat} {a2 : Int32} : ∀ (n : Nat) (a3 : Int32) (M : am_M), kp [(715, some o0a, none)] M id (l_X5_forget_45 o0a a2 n a3 M) := by
  intro n
  induction n with
  | zero => intro a3 M; exact kp_none
  | succ n ih =>
    intro a3 M
    rw [l_X5_forget_45]
    refine kp_ite ?_ ?_
    ·
      exact kp_some_m (keeps.rf _ _)
    ·
      refine kp_ite ?_ ?_
      ·
        refine kp_ite ?_ ?_
        ·
          refine kp_ite ?_ ?_
          ·
            refine kp_ite ?_ ?_
            ·
              refine kp_let_m (keeps.si (keeps.rf _ _) (by first | rfl | (simp [kpS]; done))) (fun M8 q1 => ?_)
              refine kp_let_v (fun v9 => ?_)
              exact kp_call (ih _ _) (by first | rfl | (simp [kpSub]; done)) q1
            ·
              exact kp_none
          ·
            exact kp_none
        ·
          exact kp_none
      ·
        exact kp_none
theorem fr_l_X5_forget_35 {o0a : Nat} : ∀ (n : Nat) (a2 : Int32) (M : am_M), kp [(715, some o0a, none)] M id (l_X5_forget_35 o0a n a2 M) := by
  intro n
  induction n with
  | zero => intro a2 M; exact kp_none
  | succ n ih =>
    intro a2 M
    rw [l_X5_forget_35]
    refine kp_ite ?_ ?_
    ·
      exact kp_some_m (keeps.rf _ _)
    ·
      refine kp_bind_m (kp_call (fr_l_X5_forget_45 _ _ _) (by first | rfl | (simp [kpSub]; done)) (keeps.rf _ _)) (fun z11 q1 => ?_)
      refine kp_let_v (fun v14 => ?_)
      exact kp_call (ih _ _) (by first | rfl | (simp [kpSub]; done)) q1
theorem fr_f_X5_forget {M : am_M} {o : Nat} {x1 : Int32} : kp [(5, some o, some 14), (609, some o, none), (715, some o, none)] M Prod.snd (f_X5_forget M o x1) := by
  unfold f_X5_forget
  refine kp_bind_v (fun r2 => ?_)
  refine kp_ite ?_ ?_
  ·
    refine kp_bind_p (kp_call fr_f_X5_refuse (by first | rfl | (simp [kpSub]; done)) (keeps.rf _ _)) (fun r20 q1 => ?_)
    exact kp_some_p q1
  ·
    refine kp_let_m (keeps.si (keeps.rf _ _) (by first | rfl | (simp [kpS]; done))) (fun M3 q2 => ?_)
    refine kp_bind_m (kp_call (fr_l_X5_forget_35 _ _ _) (by first | rfl | (simp [kpSub]; done)) q2) (fun z16 q3 => ?_)
    exact kp_some_p q3
theorem fr_f_X5_change {M : am_M} {o : Nat} {x1 : Int32} {x2 : Int32} : kp [(613, some o, none)] M id (f_X5_change M o x1 x2) := by
  unfold f_X5_change
  refine kp_ite ?_ ?_
  ·
    refine kp_let_v (fun v2 => ?_)
    refine kp_ite ?_ ?_
    ·
      refine kp_ite ?_ ?_
      ·
        refine kp_let_m (keeps.si (keeps.rf _ _) (by first | rfl | (simp [kpS]; done))) (fun M5 q1 => ?_)
        refine kp_ite ?_ ?_
        ·
          refine kp_let_m (keeps.si q1 (by first | rfl | (simp [kpS]; done))) (fun M7 q2 => ?_)
          exact kp_some_m q2
        ·
          exact kp_none
      ·
        exact kp_none
    ·
      exact kp_none
  ·
    exact kp_none
theorem fr_f_X5_swap {M : am_M} {o : Nat} {x1 : Int32} {x2 : Int32} : kp [(609, some o, none), (613, some o, none)] M Prod.snd (f_X5_swap M o x1 x2) := by
  unfold f_X5_swap
  refine kp_bind_v (fun r2 => ?_)
  refine kp_ite ?_ ?_
  ·
    refine kp_bind_p (kp_call fr_f_X5_refuse (by first | rfl | (simp [kpSub]; done)) (keeps.rf _ _)) (fun r4 q1 => ?_)
    exact kp_some_p q1
  ·
    refine kp_bind_v (fun r6 => ?_)
    refine kp_ite ?_ ?_
    ·
      refine kp_bind_p (kp_call fr_f_X5_refuse (by first | rfl | (simp [kpSub]; done)) (keeps.rf _ _)) (fun r14 q2 => ?_)
      exact kp_some_p q2
    ·
      refine kp_ite ?_ ?_
      ·
        refine kp_bind_m (kp_call fr_f_X5_change (by first | rfl | (simp [kpSub]; done)) (keeps.rf _ _)) (fun r8 q3 => ?_)
        refine kp_ite ?_ ?_
        ·
          exact kp_some_p q3
        ·
          exact kp_some_p q3
      ·
        refine kp_bind_p (kp_call fr_f_X5_refuse (by first | rfl | (simp [kpSub]; done)) (keeps.rf _ _)) (fun r11 q4 => ?_)
        exact kp_some_p q4
theorem fr_f_X5_feed {M : am_M} {o : Nat} {x1 : Int32} : kp [(5, some o, some 8), (607, some o, none), (609, some o, none)] M Prod.snd (f_X5_feed M o x1) := by
  unfold f_X5_feed
  refine kp_bind_v (fun r2 => ?_)
  refine kp_ite ?_ ?_
  ·
    refine kp_bind_p (kp_call fr_f_X5_refuse (by first | rfl | (simp [kpSub]; done)) (keeps.rf _ _)) (fun r10 q1 => ?_)
    exact kp_some_p q1
  ·
    refine kp_ite ?_ ?_
    ·
      refine kp_bind_p (kp_call fr_f_X5_refuse (by first | rfl | (simp [kpSub]; done)) (keeps.rf _ _)) (fun r7 q2 => ?_)
      exact kp_some_p q2
    ·
      refine kp_let_m (keeps.si (keeps.rf _ _) (by first | rfl | (simp [kpS]; done))) (fun M3 q3 => ?_)
      refine kp_ite ?_ ?_
      ·
        refine kp_let_m (keeps.si q3 (by first | rfl | (simp [kpS]; done))) (fun M5 q4 => ?_)
        exact kp_some_p q4
      ·
        exact kp_none
theorem fr_f_X5_wipe {M : am_M} {o : Nat} : kp [(5, some o, some 8)] M Prod.snd (f_X5_wipe M o) := by
  unfold f_X5_wipe
  refine kp_let_v (fun v1 => ?_)
  refine kp_let_m (keeps.si (keeps.rf _ _) (by first | rfl | (simp [kpS]; done))) (fun M2 q1 => ?_)
  exact kp_some_p q1
theorem fr_l_X5_look_0 {o0a : Nat} : ∀ (n : Nat) (M : am_M), kp [(5, some o0a, some 21)] M id (l_X5_look_0 o0a n M) := by
  intro n
  induction n with
  | zero => intro M; exact kp_none
  | succ n ih =>
    intro M
    rw [l_X5_look_0]
    refine kp_ite ?_ ?_
    ·
      exact kp_some_m (keeps.rf _ _)
    ·
      refine kp_ite ?_ ?_
      ·
        refine kp_ite ?_ ?_
        ·
          refine kp_let_m (keeps.si (keeps.rf _ _) (by first | rfl | (simp [kpS]; done))) (fun M7 q1 => ?_)
          exact kp_call (ih _) (by first | rfl | (simp [kpSub]; done)) q1
        ·
          exact kp_some_m (keeps.rf _ _)
      ·
        exact kp_none
theorem fr_l_X5_look_149 {o0a : Nat} : ∀ (n : Nat) (M : am_M), kp [(5, some o0a, some 21), (5, some o0a, some 24)] M id (l_X5_look_149 o0a n M) := by
  intro n
  induction n with
  | zero => intro M; exact kp_none
  | succ n ih =>
    intro M
    rw [l_X5_look_149]
    refine kp_ite ?_ ?_
    ·
      exact kp_some_m (keeps.rf _ _)
    ·
      refine kp_ite ?_ ?_
      ·
        refine kp_bind_v (fun r32 => ?_)
        refine kp_ite ?_ ?_
        ·
          exact kp_some_m (keeps.rf _ _)
        ·
          refine kp_bind_v (fun z33 => ?_)
          refine kp_let_m (keeps.si (keeps.rf _ _) (by first | rfl | (simp [kpS]; done))) (fun M38 q1 => ?_)
          refine kp_let_m (keeps.si q1 (by first | rfl | (simp [kpS]; done))) (fun M39 q2 => ?_)
          exact kp_call (ih _) (by first | rfl | (simp [kpSub]; done)) q2
      ·
        exact kp_none
theorem fr_l_X5_look_90 {o0a : Nat} : ∀ (n : Nat) (M : am_M), kp [(5, some o0a, some 21)] M id (l_X5_look_90 o0a n M) := by
  intro n
  induction n with
  | zero => intro M; exact kp_none
  | succ n ih =>
    intro M
    rw [l_X5_look_90]
    refine kp_ite ?_ ?_
    ·
      exact kp_some_m (keeps.rf _ _)
    ·
      refine kp_ite ?_ ?_
      ·
        refine kp_bind_v (fun r49 => ?_)
        refine kp_ite ?_ ?_
        ·
          exact kp_some_m (keeps.rf _ _)
        ·
          refine kp_let_m (keeps.si (keeps.rf _ _) (by first | rfl | (simp [kpS]; done))) (fun M50 q1 => ?_)
          exact kp_call (ih _) (by first | rfl | (simp [kpSub]; done)) q1
      ·
        exact kp_none
theorem fr_f_X5_look {M : am_M} {o : Nat} : kp [(5, some o, some 21), (5, some o, some 22), (5, some o, some 23), (5, some o, some 24)] M id (f_X5_look M o) := by
  unfold f_X5_look
  refine kp_bind_m ?_ (fun z1 q1 => ?_)
  ·
    refine kp_ite ?_ ?_
    ·
      exact kp_some_m (keeps.rf _ _)
    ·
      refine kp_ite ?_ ?_
      ·
        refine kp_ite ?_ ?_
        ·
          refine kp_let_m (keeps.si (keeps.rf _ _) (by first | rfl | (simp [kpS]; done))) (fun M5 q2 => ?_)
          refine kp_bind_m (kp_call (fr_l_X5_look_0 _ _) (by first | rfl | (simp [kpSub]; done)) q2) (fun z10 q3 => ?_)
          exact kp_some_m q3
        ·
          exact kp_some_m (keeps.rf _ _)
      ·
        exact kp_none
  refine kp_let_m (keeps.si q1 (by first | rfl | (simp [kpS]; done))) (fun M15 q4 => ?_)
  refine kp_let_m (keeps.si q4 (by first | rfl | (simp [kpS]; done))) (fun M16 q5 => ?_)
  refine kp_ite ?_ ?_
  ·
    refine kp_let_m (keeps.si q5 (by first | rfl | (simp [kpS]; done))) (fun M57 q6 => ?_)
    exact kp_some_m q6
  ·
    refine kp_ite ?_ ?_
    ·
      refine kp_bind_v (fun r19 => ?_)
      refine kp_ite ?_ ?_
      ·
        refine kp_ite ?_ ?_
        ·
          refine kp_bind_v (fun r22 => ?_)
          refine kp_ite ?_ ?_
          ·
            refine kp_ite ?_ ?_
            ·
              refine kp_ite ?_ ?_
              ·
                refine kp_let_m (keeps.si q5 (by first | rfl | (simp [kpS]; done))) (fun M26 q7 => ?_)
                refine kp_let_m (keeps.si q7 (by first | rfl | (simp [kpS]; done))) (fun M27 q8 => ?_)
                exact kp_some_m q8
              ·
                refine kp_let_m (keeps.si q5 (by first | rfl | (simp [kpS]; done))) (fun M24 q9 => ?_)
                refine kp_let_m (keeps.si q9 (by first | rfl | (simp [kpS]; done))) (fun M25 q10 => ?_)
                exact kp_some_m q10
            ·
              exact kp_none
          ·
            refine kp_let_m (keeps.si q5 (by first | rfl | (simp [kpS]; done))) (fun M29 q11 => ?_)
            refine kp_bind_m (kp_call (fr_l_X5_look_149 _ _) (by first | rfl | (simp [kpSub]; done)) q11) (fun z42 q12 => ?_)
            exact kp_some_m q12
        ·
          exact kp_none
      ·
        refine kp_let_m (keeps.si q5 (by first | rfl | (simp [kpS]; done))) (fun M46 q13 => ?_)
        refine kp_bind_m (kp_call (fr_l_X5_look_90 _ _) (by first | rfl | (simp [kpSub]; done)) q13) (fun z53 q14 => ?_)
        exact kp_some_m q14
    ·
      exact kp_none
theorem fr_f_X5_wrong {M : am_M} {o : Nat} : kp [(5, some o, some 25)] M Prod.snd (f_X5_wrong M o) := by
  unfold f_X5_wrong
  refine kp_let_m (keeps.si (keeps.rf _ _) (by first | rfl | (simp [kpS]; done))) (fun M1 q1 => ?_)
  exact kp_some_p q1
theorem fr_f_X5_number {M : am_M} {o : Nat} {x1 : Int32} {x2 : Int32} {x3 : Int32} : kp [(5, some o, some 21), (5, some o, some 22), (5, some o, some 23), (5, some o, some 24), (5, some o, some 25), (626, some o, none)] M Prod.snd (f_X5_number M o x1 x2 x3) := by
  unfold f_X5_number
  refine kp_ite ?_ ?_
  ·
    refine kp_bind_v (fun r5 => ?_)
    refine kp_ite ?_ ?_
    ·
      refine kp_bind_p (kp_call fr_f_X5_wrong (by first | rfl | (simp [kpSub]; done)) (keeps.rf _ _)) (fun r11 q1 => ?_)
      refine kp_ite ?_ ?_
      ·
        exact kp_some_p q1
      ·
        exact kp_none
    ·
      refine kp_ite ?_ ?_
      ·
        refine kp_let_m (keeps.si (keeps.rf _ _) (by first | rfl | (simp [kpS]; done))) (fun M7 q2 => ?_)
        refine kp_bind_m (kp_call fr_f_X5_look (by first | rfl | (simp [kpSub]; done)) q2) (fun r9 q3 => ?_)
        exact kp_some_p q3
      ·
        exact kp_none
  ·
    refine kp_bind_p (kp_call fr_f_X5_wrong (by first | rfl | (simp [kpSub]; done)) (keeps.rf _ _)) (fun r2 q4 => ?_)
    refine kp_ite ?_ ?_
    ·
      exact kp_some_p q4
    ·
      exact kp_none
theorem fr_f_X5_tells {M : am_M} {o : Nat} {x1 : Int32} {x2 : Int32} : kp [(5, some o, some 21), (5, some o, some 22), (5, some o, some 23), (5, some o, some 24), (5, some o, some 25), (626, some o, none)] M Prod.snd (f_X5_tells M o x1 x2) := by
  unfold f_X5_tells
  refine kp_bind_m (kp_call fr_f_X5_look (by first | rfl | (simp [kpSub]; done)) (keeps.rf _ _)) (fun r2 q1 => ?_)
  refine kp_bind_p (kp_call fr_f_X5_number (by first | rfl | (simp [kpSub]; done)) q1) (fun r4 q2 => ?_)
  refine kp_ite ?_ ?_
  ·
    exact kp_some_p q2
  ·
    exact kp_none
theorem fr_f_X5_heapTold {M : am_M} {o : Nat} : kp [(5, some o, some 10), (5, some o, some 21), (5, some o, some 22), (5, some o, some 23), (5, some o, some 24), (5, some o, some 25), (611, some o, none), (612, some o, none), (613, some o, none), (626, some o, none)] M Prod.snd (f_X5_heapTold M o) := by
  unfold f_X5_heapTold
  refine kp_bind_p (kp_call fr_f_X5_tells (by first | rfl | (simp [kpSub]; done)) (keeps.rf _ _)) (fun r2 q1 => ?_)
  refine kp_ite ?_ ?_
  ·
    exact kp_some_p q1
  ·
    refine kp_bind_v (fun r4 => ?_)
    refine kp_let_v (fun v5 => ?_)
    refine kp_bind_v (fun z6 => ?_)
    refine kp_bind_v (fun z10 => ?_)
    refine kp_bind_p (kp_call fr_f_X5_number (by first | rfl | (simp [kpSub]; done)) q1) (fun r15 q2 => ?_)
    refine kp_ite ?_ ?_
    ·
      exact kp_some_p q2
    ·
      refine kp_bind_m (kp_call fr_f_X5_addHeap (by first | rfl | (simp [kpSub]; done)) q2) (fun r17 q3 => ?_)
      exact kp_some_p q3
