theorem fr_l_X5_readTold_22 {o0a : Nat} : ∀ (n : Nat) (a1 : Int32) (M : am_M), kp [(5, some o0a, some 16), (5, some o0a, some 21), (5, some o0a, some 22), (5, some o0a, some 23), (5, some o0a, some 24), (5, some o0a, some 25), (617, some o0a, none)] M Prod.snd (l_X5_readTold_22 o0a n a1 M) := by
  intro n
  induction n with
  | zero => intro a1 M; exact kp_none
  | succ n ih =>
    intro a1 M
    rw [l_X5_readTold_22]
    refine kp_ite ?_ ?_
    ·
      refine kp_bind_m (kp_call fr_f_X5_look (by first | rfl | (simp [kpSub]; done)) (keeps.rf _ _)) (fun r5 q1 => ?_)
      exact kp_some_p q1
    ·
      refine kp_ite ?_ ?_
      ·
        refine kp_bind_v (fun z7 => ?_)
        refine kp_ite ?_ ?_
        ·
          refine kp_ite ?_ ?_
          ·
            refine kp_ite ?_ ?_
            ·
              refine kp_bind_v (fun r30 => ?_)
              refine kp_ite ?_ ?_
              ·
                refine kp_bind_p (kp_call fr_f_X5_wrong (by first | rfl | (simp [kpSub]; done)) (keeps.rf _ _)) (fun r40 q2 => ?_)
                refine kp_ite ?_ ?_
                ·
                  exact kp_some_p q2
                ·
                  exact kp_none
              ·
                refine kp_let_m (keeps.si (keeps.rf _ _) (by first | rfl | (simp [kpS]; done))) (fun M31 q3 => ?_)
                refine kp_bind_v (fun z32 => ?_)
                refine kp_ite ?_ ?_
                ·
                  refine kp_let_m (keeps.si q3 (by first | rfl | (simp [kpS]; done))) (fun M37 q4 => ?_)
                  refine kp_let_v (fun v38 => ?_)
                  exact kp_call (ih _ _) (by first | rfl | (simp [kpSub]; done)) q4
                ·
                  exact kp_none
            ·
              refine kp_bind_p (kp_call fr_f_X5_wrong (by first | rfl | (simp [kpSub]; done)) (keeps.rf _ _)) (fun r27 q5 => ?_)
              refine kp_ite ?_ ?_
              ·
                exact kp_some_p q5
              ·
                exact kp_none
          ·
            exact kp_none
        ·
          refine kp_bind_v (fun r12 => ?_)
          refine kp_ite ?_ ?_
          ·
            refine kp_bind_p (kp_call fr_f_X5_wrong (by first | rfl | (simp [kpSub]; done)) (keeps.rf _ _)) (fun r22 q6 => ?_)
            refine kp_ite ?_ ?_
            ·
              exact kp_some_p q6
            ·
              exact kp_none
          ·
            refine kp_let_m (keeps.si (keeps.rf _ _) (by first | rfl | (simp [kpS]; done))) (fun M13 q7 => ?_)
            refine kp_bind_v (fun z14 => ?_)
            refine kp_ite ?_ ?_
            ·
              refine kp_let_m (keeps.si q7 (by first | rfl | (simp [kpS]; done))) (fun M19 q8 => ?_)
              refine kp_let_v (fun v20 => ?_)
              exact kp_call (ih _ _) (by first | rfl | (simp [kpSub]; done)) q8
            ·
              exact kp_none
      ·
        exact kp_none
theorem fr_f_X5_readTold {M : am_M} {o : Nat} : kp [(5, some o, some 16), (5, some o, some 21), (5, some o, some 22), (5, some o, some 23), (5, some o, some 24), (5, some o, some 25), (617, some o, none)] M Prod.snd (f_X5_readTold M o) := by
  unfold f_X5_readTold
  refine kp_bind_m (kp_call fr_f_X5_look (by first | rfl | (simp [kpSub]; done)) (keeps.rf _ _)) (fun r2 q1 => ?_)
  refine kp_ite ?_ ?_
  ·
    refine kp_let_v (fun v3 => ?_)
    exact kp_call (fr_l_X5_readTold_22 _ _ _) (by first | rfl | (simp [kpSub]; done)) q1
  ·
    refine kp_bind_p (kp_call fr_f_X5_wrong (by first | rfl | (simp [kpSub]; done)) q1) (fun r47 q2 => ?_)
    refine kp_ite ?_ ?_
    ·
      exact kp_some_p q2
    ·
      exact kp_none
theorem fr_f_X5_swapTold {M : am_M} {o : Nat} : kp [(5, some o, some 21), (5, some o, some 22), (5, some o, some 23), (5, some o, some 24), (5, some o, some 25), (613, some o, none), (626, some o, none)] M Prod.snd (f_X5_swapTold M o) := by
  unfold f_X5_swapTold
  refine kp_bind_p (kp_call fr_f_X5_tells (by first | rfl | (simp [kpSub]; done)) (keeps.rf _ _)) (fun r2 q1 => ?_)
  refine kp_ite ?_ ?_
  ·
    exact kp_some_p q1
  ·
    refine kp_ite ?_ ?_
    ·
      refine kp_ite ?_ ?_
      ·
        refine kp_bind_p (kp_call fr_f_X5_wrong (by first | rfl | (simp [kpSub]; done)) q1) (fun r12 q2 => ?_)
        refine kp_ite ?_ ?_
        ·
          exact kp_some_p q2
        ·
          exact kp_none
      ·
        refine kp_bind_p (kp_call fr_f_X5_number (by first | rfl | (simp [kpSub]; done)) q1) (fun r15 q3 => ?_)
        refine kp_ite ?_ ?_
        ·
          refine kp_bind_p (kp_call fr_f_X5_wrong (by first | rfl | (simp [kpSub]; done)) q3) (fun r19 q4 => ?_)
          refine kp_ite ?_ ?_
          ·
            exact kp_some_p q4
          ·
            exact kp_none
        ·
          refine kp_bind_m (kp_call fr_f_X5_change (by first | rfl | (simp [kpSub]; done)) q3) (fun r17 q5 => ?_)
          exact kp_some_p q5
    ·
      refine kp_bind_p (kp_call fr_f_X5_number (by first | rfl | (simp [kpSub]; done)) q1) (fun r4 q6 => ?_)
      refine kp_ite ?_ ?_
      ·
        refine kp_bind_p (kp_call fr_f_X5_wrong (by first | rfl | (simp [kpSub]; done)) q6) (fun r8 q7 => ?_)
        refine kp_ite ?_ ?_
        ·
          exact kp_some_p q7
        ·
          exact kp_none
      ·
        refine kp_bind_m (kp_call fr_f_X5_change (by first | rfl | (simp [kpSub]; done)) q6) (fun r6 q8 => ?_)
        exact kp_some_p q8
theorem fr_f_X5_heapOf {M : am_M} {o : Nat} {x1 : Int32} {x2 : Int32} : kp [(609, some o, none)] M Prod.snd (f_X5_heapOf M o x1 x2) := by
  unfold f_X5_heapOf
  refine kp_bind_v (fun r2 => ?_)
  refine kp_ite ?_ ?_
  ·
    refine kp_bind_p (kp_call fr_f_X5_refuse (by first | rfl | (simp [kpSub]; done)) (keeps.rf _ _)) (fun r4 q1 => ?_)
    exact kp_some_p q1
  ·
    refine kp_bind_v (fun r6 => ?_)
    refine kp_ite ?_ ?_
    ·
      refine kp_bind_p (kp_call fr_f_X5_refuse (by first | rfl | (simp [kpSub]; done)) (keeps.rf _ _)) (fun r18 q2 => ?_)
      exact kp_some_p q2
    ·
      refine kp_ite ?_ ?_
      ·
        refine kp_bind_v (fun z10 => ?_)
        exact kp_some_p (keeps.rf _ _)
      ·
        refine kp_ite ?_ ?_
        ·
          refine kp_ite ?_ ?_
          ·
            exact kp_some_p (keeps.rf _ _)
          ·
            exact kp_none
        ·
          refine kp_ite ?_ ?_
          ·
            exact kp_some_p (keeps.rf _ _)
          ·
            exact kp_none
theorem fr_f_X5_factOf {M : am_M} {o : Nat} {x1 : Int32} {x2 : Int32} : kp [(609, some o, none)] M Prod.snd (f_X5_factOf M o x1 x2) := by
  unfold f_X5_factOf
  refine kp_bind_v (fun r2 => ?_)
  refine kp_ite ?_ ?_
  ·
    refine kp_bind_p (kp_call fr_f_X5_refuse (by first | rfl | (simp [kpSub]; done)) (keeps.rf _ _)) (fun r4 q1 => ?_)
    exact kp_some_p q1
  ·
    refine kp_bind_v (fun r6 => ?_)
    refine kp_ite ?_ ?_
    ·
      refine kp_bind_p (kp_call fr_f_X5_refuse (by first | rfl | (simp [kpSub]; done)) (keeps.rf _ _)) (fun r8 q2 => ?_)
      exact kp_some_p q2
    ·
      refine kp_ite ?_ ?_
      ·
        refine kp_ite ?_ ?_
        ·
          exact kp_some_p (keeps.rf _ _)
        ·
          exact kp_none
      ·
        exact kp_none
theorem fr_l_X5_seeAll_16 {o0a : Nat} {a1 : Int32} : ∀ (n : Nat) (a2 : Int32) (M : am_M), kp [(728, some o0a, none)] M id (l_X5_seeAll_16 o0a a1 n a2 M) := by
  intro n
  induction n with
  | zero => intro a2 M; exact kp_none
  | succ n ih =>
    intro a2 M
    rw [l_X5_seeAll_16]
    refine kp_ite ?_ ?_
    ·
      exact kp_some_m (keeps.rf _ _)
    ·
      refine kp_ite ?_ ?_
      ·
        refine kp_ite ?_ ?_
        ·
          refine kp_bind_v (fun r6 => ?_)
          refine kp_ite ?_ ?_
          ·
            refine kp_ite ?_ ?_
            ·
              refine kp_let_m (keeps.si (keeps.rf _ _) (by first | rfl | (simp [kpS]; done))) (fun M9 q1 => ?_)
              refine kp_let_v (fun v10 => ?_)
              exact kp_call (ih _ _) (by first | rfl | (simp [kpSub]; done)) q1
            ·
              exact kp_none
          ·
            exact kp_none
        ·
          exact kp_none
      ·
        exact kp_none
theorem fr_l_X5_seeAll_6 {o0a : Nat} : ∀ (n : Nat) (a1 : Int32) (M : am_M), kp [(728, some o0a, none)] M id (l_X5_seeAll_6 o0a n a1 M) := by
  intro n
  induction n with
  | zero => intro a1 M; exact kp_none
  | succ n ih =>
    intro a1 M
    rw [l_X5_seeAll_6]
    refine kp_ite ?_ ?_
    ·
      exact kp_some_m (keeps.rf _ _)
    ·
      refine kp_bind_m (kp_call (fr_l_X5_seeAll_16 _ _ _) (by first | rfl | (simp [kpSub]; done)) (keeps.rf _ _)) (fun z12 q1 => ?_)
      refine kp_let_v (fun v15 => ?_)
      exact kp_call (ih _ _) (by first | rfl | (simp [kpSub]; done)) q1
theorem fr_f_X5_seeAll {M : am_M} {o : Nat} : kp [(5, some o, some 29), (728, some o, none)] M id (f_X5_seeAll M o) := by
  unfold f_X5_seeAll
  refine kp_bind_m (kp_call fr_f_X5_seeHeaps (by first | rfl | (simp [kpSub]; done)) (keeps.rf _ _)) (fun r2 q1 => ?_)
  refine kp_bind_m (kp_call (fr_l_X5_seeAll_6 _ _ _) (by first | rfl | (simp [kpSub]; done)) q1) (fun z17 q2 => ?_)
  exact kp_some_m q2
theorem fr_f_X5_rows {M : am_M} {o : Nat} : kp [(5, some o, some 29), (728, some o, none), (730, some o, none)] M Prod.snd (f_X5_rows M o) := by
  unfold f_X5_rows
  refine kp_bind_m (kp_call fr_f_X5_seeHeaps (by first | rfl | (simp [kpSub]; done)) (keeps.rf _ _)) (fun r2 q1 => ?_)
  refine kp_bind_p (kp_call fr_f_X5_count (by first | rfl | (simp [kpSub]; done)) q1) (fun r4 q2 => ?_)
  exact kp_some_p q2
theorem fr_f_X5_waysOf {M : am_M} {o : Nat} : kp [(5, some o, some 29), (728, some o, none), (730, some o, none)] M Prod.snd (f_X5_waysOf M o) := by
  unfold f_X5_waysOf
  refine kp_bind_m (kp_call fr_f_X5_seeAll (by first | rfl | (simp [kpSub]; done)) (keeps.rf _ _)) (fun r2 q1 => ?_)
  refine kp_bind_p (kp_call fr_f_X5_count (by first | rfl | (simp [kpSub]; done)) q1) (fun r4 q2 => ?_)
  exact kp_some_p q2
theorem fr_f_X5_ways {M : am_M} {o : Nat} : kp [(5, some o, some 29), (728, some o, none), (730, some o, none)] M Prod.snd (f_X5_ways M o) := by
  unfold f_X5_ways
  refine kp_bind_p (kp_call fr_f_X5_waysOf (by first | rfl | (simp [kpSub]; done)) (keeps.rf _ _)) (fun r2 q1 => ?_)
  exact kp_some_p q1
theorem fr_f_X5_read {M : am_M} {o : Nat} {x1 : Int32} : kp [(5, some o, some 16), (609, some o, none), (617, some o, none)] M Prod.snd (f_X5_read M o x1) := by
  unfold f_X5_read
  refine kp_bind_v (fun r2 => ?_)
  refine kp_ite ?_ ?_
  ·
    refine kp_bind_p (kp_call fr_f_X5_refuse (by first | rfl | (simp [kpSub]; done)) (keeps.rf _ _)) (fun r10 q1 => ?_)
    exact kp_some_p q1
  ·
    refine kp_let_m (keeps.si (keeps.rf _ _) (by first | rfl | (simp [kpS]; done))) (fun M3 q2 => ?_)
    refine kp_ite ?_ ?_
    ·
      refine kp_ite ?_ ?_
      ·
        refine kp_let_m (keeps.si q2 (by first | rfl | (simp [kpS]; done))) (fun M5 q3 => ?_)
        exact kp_some_p q3
      ·
        exact kp_none
    ·
      refine kp_ite ?_ ?_
      ·
        refine kp_let_m (keeps.si q2 (by first | rfl | (simp [kpS]; done))) (fun M7 q4 => ?_)
        exact kp_some_p q4
      ·
        exact kp_none
theorem fr_f_X5_slip {M : am_M} {o : Nat} {x1 : Int32} : kp [(609, some o, none)] M Prod.snd (f_X5_slip M o x1) := by
  unfold f_X5_slip
  refine kp_bind_v (fun r2 => ?_)
  refine kp_ite ?_ ?_
  ·
    refine kp_bind_p (kp_call fr_f_X5_refuse (by first | rfl | (simp [kpSub]; done)) (keeps.rf _ _)) (fun r4 q1 => ?_)
    exact kp_some_p q1
  ·
    refine kp_ite ?_ ?_
    ·
      exact kp_some_p (keeps.rf _ _)
    ·
      exact kp_none
theorem fr_f_X5_again {M : am_M} {o : Nat} : kp [(5, some o, some 16)] M Prod.snd (f_X5_again M o) := by
  unfold f_X5_again
  refine kp_let_v (fun v1 => ?_)
  refine kp_let_m (keeps.si (keeps.rf _ _) (by first | rfl | (simp [kpS]; done))) (fun M2 q1 => ?_)
  exact kp_some_p q1
theorem fr_f_X5_countFits {M : am_M} {o : Nat} {x1 : Int32} {x2 : Int32} : kp [(5, some o, some 29), (728, some o, none), (730, some o, none)] M Prod.snd (f_X5_countFits M o x1 x2) := by
  unfold f_X5_countFits
  refine kp_bind_m (kp_call fr_f_X5_seeAll (by first | rfl | (simp [kpSub]; done)) (keeps.rf _ _)) (fun r2 q1 => ?_)
  refine kp_bind_p (kp_call fr_f_X5_count (by first | rfl | (simp [kpSub]; done)) q1) (fun r4 q2 => ?_)
  exact kp_some_p q2
theorem fr_f_X5_ahead {M : am_M} {o : Nat} {x1 : Int32} : kp [(5, some o, some 29), (609, some o, none), (728, some o, none), (730, some o, none)] M Prod.snd (f_X5_ahead M o x1) := by
  unfold f_X5_ahead
  refine kp_bind_v (fun r2 => ?_)
  refine kp_ite ?_ ?_
  ·
    refine kp_bind_p (kp_call fr_f_X5_refuse (by first | rfl | (simp [kpSub]; done)) (keeps.rf _ _)) (fun r4 q1 => ?_)
    exact kp_some_p q1
  ·
    refine kp_bind_p (kp_call fr_f_X5_countFits (by first | rfl | (simp [kpSub]; done)) (keeps.rf _ _)) (fun r6 q2 => ?_)
    exact kp_some_p q2
theorem fr_f_X5_never {M : am_M} {o : Nat} : kp [(5, some o, some 29), (728, some o, none), (730, some o, none)] M Prod.snd (f_X5_never M o) := by
  unfold f_X5_never
  refine kp_bind_p (kp_call fr_f_X5_countFits (by first | rfl | (simp [kpSub]; done)) (keeps.rf _ _)) (fun r2 q1 => ?_)
  exact kp_some_p q1
theorem fr_l_X5_countMoments_10 {o0a : Nat} {a1 : Int32} {a2 : Int32} : ∀ (n : Nat) (a3 : Int32) (M : am_M), kp [(732, some o0a, none)] M id (l_X5_countMoments_10 o0a a1 a2 n a3 M) := by
  intro n
  induction n with
  | zero => intro a3 M; exact kp_none
  | succ n ih =>
    intro a3 M
    rw [l_X5_countMoments_10]
    refine kp_ite ?_ ?_
    ·
      exact kp_some_m (keeps.rf _ _)
    ·
      refine kp_ite ?_ ?_
      ·
        refine kp_ite ?_ ?_
        ·
          refine kp_let_m (keeps.sl (keeps.rf _ _) (by first | rfl | (simp [kpS]; done))) (fun M3 q1 => ?_)
          refine kp_let_v (fun v4 => ?_)
          exact kp_call (ih _ _) (by first | rfl | (simp [kpSub]; done)) q1
        ·
          exact kp_none
      ·
        exact kp_none
theorem fr_l_X5_countMoments_2 {o0a : Nat} {a1 : Int32} : ∀ (n : Nat) (a2 : Int32) (M : am_M), kp [(732, some o0a, none)] M id (l_X5_countMoments_2 o0a a1 n a2 M) := by
  intro n
  induction n with
  | zero => intro a2 M; exact kp_none
  | succ n ih =>
    intro a2 M
    rw [l_X5_countMoments_2]
    refine kp_ite ?_ ?_
    ·
      exact kp_some_m (keeps.rf _ _)
    ·
      refine kp_bind_m (kp_call (fr_l_X5_countMoments_10 _ _ _) (by first | rfl | (simp [kpSub]; done)) (keeps.rf _ _)) (fun z6 q1 => ?_)
      refine kp_let_v (fun v9 => ?_)
      exact kp_call (ih _ _) (by first | rfl | (simp [kpSub]; done)) q1
theorem fr_l_X5_countMoments_112 {o0a : Nat} {a1 : Int32} {a2 : Int32} {a3 : Int32} {a5 : Int32} : ∀ (n : Nat) (a6 : Int32) (M : am_M), kp [(733, some o0a, none)] M id (l_X5_countMoments_112 o0a a1 a2 a3 a5 n a6 M) := by
  intro n
  induction n with
  | zero => intro a6 M; exact kp_none
  | succ n ih =>
    intro a6 M
    rw [l_X5_countMoments_112]
    refine kp_ite ?_ ?_
    ·
      exact kp_some_m (keeps.rf _ _)
    ·
      refine kp_bind_v (fun z26 => ?_)
      refine kp_ite ?_ ?_
      ·
        refine kp_ite ?_ ?_
        ·
          refine kp_ite ?_ ?_
          ·
            refine kp_bind_v (fun z45 => ?_)
            refine kp_ite ?_ ?_
            ·
              refine kp_let_m (keeps.sl (keeps.rf _ _) (by first | rfl | (simp [kpS]; done))) (fun M50 q1 => ?_)
              refine kp_let_v (fun v51 => ?_)
              exact kp_call (ih _ _) (by first | rfl | (simp [kpSub]; done)) q1
            ·
              exact kp_none
          ·
            exact kp_none
        ·
          exact kp_none
      ·
        exact kp_none
theorem fr_l_X5_countMoments_73 {o0a : Nat} {a1 : Int32} {a2 : Int32} : ∀ (n : Nat) (a3 : Int32) (M : am_M), kp [(733, some o0a, none)] M id (l_X5_countMoments_73 o0a a1 a2 n a3 M) := by
  intro n
  induction n with
  | zero => intro a3 M; exact kp_none
  | succ n ih =>
    intro a3 M
    rw [l_X5_countMoments_73]
    refine kp_ite ?_ ?_
    ·
      exact kp_some_m (keeps.rf _ _)
    ·
      refine kp_let_v (fun v19 => ?_)
      refine kp_bind_v (fun z20 => ?_)
      refine kp_bind_m (kp_call (fr_l_X5_countMoments_112 _ _ _) (by first | rfl | (simp [kpSub]; done)) (keeps.rf _ _)) (fun z53 q1 => ?_)
      refine kp_let_v (fun v56 => ?_)
      exact kp_call (ih _ _) (by first | rfl | (simp [kpSub]; done)) q1
theorem fr_l_X5_countMoments_223 {o0a : Nat} {a1 : Int32} {a2 : Int32} {a3 : Int32} : ∀ (n : Nat) (a4 : Int32) (M : am_M), kp [(732, some o0a, none)] M id (l_X5_countMoments_223 o0a a1 a2 a3 n a4 M) := by
  intro n
  induction n with
  | zero => intro a4 M; exact kp_none
  | succ n ih =>
    intro a4 M
    rw [l_X5_countMoments_223]
    refine kp_ite ?_ ?_
    ·
      exact kp_some_m (keeps.rf _ _)
    ·
      refine kp_ite ?_ ?_
      ·
        refine kp_ite ?_ ?_
        ·
          refine kp_ite ?_ ?_
          ·
            refine kp_ite ?_ ?_
            ·
              refine kp_let_m (keeps.sl (keeps.rf _ _) (by first | rfl | (simp [kpS]; done))) (fun M65 q1 => ?_)
              refine kp_let_v (fun v66 => ?_)
              exact kp_call (ih _ _) (by first | rfl | (simp [kpSub]; done)) q1
            ·
              exact kp_none
          ·
            exact kp_none
        ·
          exact kp_none
      ·
        exact kp_none
theorem fr_l_X5_countMoments_215 {o0a : Nat} {a1 : Int32} {a2 : Int32} : ∀ (n : Nat) (a3 : Int32) (M : am_M), kp [(732, some o0a, none)] M id (l_X5_countMoments_215 o0a a1 a2 n a3 M) := by
  intro n
  induction n with
  | zero => intro a3 M; exact kp_none
  | succ n ih =>
    intro a3 M
    rw [l_X5_countMoments_215]
    refine kp_ite ?_ ?_
    ·
      exact kp_some_m (keeps.rf _ _)
    ·
      refine kp_bind_m (kp_call (fr_l_X5_countMoments_223 _ _ _) (by first | rfl | (simp [kpSub]; done)) (keeps.rf _ _)) (fun z68 q1 => ?_)
      refine kp_let_v (fun v71 => ?_)
      exact kp_call (ih _ _) (by first | rfl | (simp [kpSub]; done)) q1
theorem fr_l_X5_countMoments_63 {o0a : Nat} {a1 : Int32} : ∀ (n : Nat) (a2 : Int32) (M : am_M), kp [(732, some o0a, none), (733, some o0a, none)] M id (l_X5_countMoments_63 o0a a1 n a2 M) := by
  intro n
  induction n with
  | zero => intro a2 M; exact kp_none
  | succ n ih =>
    intro a2 M
    rw [l_X5_countMoments_63]
    refine kp_ite ?_ ?_
    ·
      exact kp_some_m (keeps.rf _ _)
    ·
      refine kp_bind_m (kp_call (fr_l_X5_countMoments_73 _ _ _) (by first | rfl | (simp [kpSub]; done)) (keeps.rf _ _)) (fun z58 q1 => ?_)
      refine kp_bind_m (kp_call (fr_l_X5_countMoments_215 _ _ _) (by first | rfl | (simp [kpSub]; done)) q1) (fun z73 q2 => ?_)
      refine kp_let_v (fun v76 => ?_)
      exact kp_call (ih _ _) (by first | rfl | (simp [kpSub]; done)) q2
theorem fr_f_X5_countMoments {M : am_M} {o : Nat} {x1 : Int32} : kp [(732, some o, none), (733, some o, none)] M id (f_X5_countMoments M o x1) := by
  unfold f_X5_countMoments
  refine kp_bind_m (kp_call (fr_l_X5_countMoments_2 _ _ _) (by first | rfl | (simp [kpSub]; done)) (keeps.rf _ _)) (fun z11 q1 => ?_)
  refine kp_bind_v (fun z14 => ?_)
  refine kp_let_m (keeps.sl q1 (by first | rfl | (simp [kpS]; done))) (fun M18 q2 => ?_)
  refine kp_bind_m (kp_call (fr_l_X5_countMoments_63 _ _ _) (by first | rfl | (simp [kpSub]; done)) q2) (fun z78 q3 => ?_)
  exact kp_some_m q3
theorem fr_f_X5_level {M : am_M} {o : Nat} {x1 : Int32} : kp [(5, some o, some 29), (609, some o, none), (728, some o, none), (732, some o, none), (733, some o, none)] M Prod.snd (f_X5_level M o x1) := by
  unfold f_X5_level
  refine kp_bind_v (fun r2 => ?_)
  refine kp_ite ?_ ?_
  ·
    refine kp_bind_p (kp_call fr_f_X5_refuse (by first | rfl | (simp [kpSub]; done)) (keeps.rf _ _)) (fun r10 q1 => ?_)
    exact kp_some_p q1
  ·
    refine kp_bind_m (kp_call fr_f_X5_seeAll (by first | rfl | (simp [kpSub]; done)) (keeps.rf _ _)) (fun r4 q2 => ?_)
    refine kp_bind_m (kp_call fr_f_X5_countMoments (by first | rfl | (simp [kpSub]; done)) q2) (fun r6 q3 => ?_)
    refine kp_bind_v (fun r8 => ?_)
    exact kp_some_p q3
theorem fr_f_X5_last {M : am_M} {o : Nat} {x1 : Int32} : kp [(5, some o, some 29), (609, some o, none), (728, some o, none), (730, some o, none)] M Prod.snd (f_X5_last M o x1) := by
  unfold f_X5_last
  refine kp_bind_v (fun r2 => ?_)
  refine kp_ite ?_ ?_
  ·
    refine kp_bind_p (kp_call fr_f_X5_refuse (by first | rfl | (simp [kpSub]; done)) (keeps.rf _ _)) (fun r17 q1 => ?_)
    exact kp_some_p q1
  ·
    refine kp_bind_m (kp_call fr_f_X5_seeAll (by first | rfl | (simp [kpSub]; done)) (keeps.rf _ _)) (fun r4 q2 => ?_)
    refine kp_bind_p (kp_call fr_f_X5_count (by first | rfl | (simp [kpSub]; done)) q2) (fun r6 q3 => ?_)
    refine kp_let_v (fun v7 => ?_)
    refine kp_bind_p ?_ (fun z8 q4 => ?_)
    ·
      refine kp_ite ?_ ?_
      ·
        exact kp_some_p q3
      ·
        refine kp_bind_p (kp_call fr_f_X5_count (by first | rfl | (simp [kpSub]; done)) q3) (fun r12 q5 => ?_)
        exact kp_some_p q5
    refine kp_let_v (fun v14 => ?_)
    refine kp_ite ?_ ?_
    ·
      exact kp_some_p q4
    ·
      exact kp_some_p q4
theorem fr_f_X5_greatest {M : am_M} {o : Nat} {x1 : Int32} : kp [(5, some o, some 29), (609, some o, none), (728, some o, none), (730, some o, none)] M Prod.snd (f_X5_greatest M o x1) := by
  unfold f_X5_greatest
  refine kp_bind_v (fun r2 => ?_)
  refine kp_ite ?_ ?_
  ·
    refine kp_bind_p (kp_call fr_f_X5_refuse (by first | rfl | (simp [kpSub]; done)) (keeps.rf _ _)) (fun r10 q1 => ?_)
    exact kp_some_p q1
  ·
    refine kp_bind_p (kp_call fr_f_X5_countFits (by first | rfl | (simp [kpSub]; done)) (keeps.rf _ _)) (fun r4 q2 => ?_)
    refine kp_let_v (fun v5 => ?_)
    refine kp_ite ?_ ?_
    ·
      exact kp_some_p q2
    ·
      refine kp_bind_p (kp_call fr_f_X5_count (by first | rfl | (simp [kpSub]; done)) q2) (fun r7 q3 => ?_)
      exact kp_some_p q3
theorem fr_l_X5_findSure_42 {o0a : Nat} {a1 : Int32} {a2 : Int32} : ∀ (n : Nat) (a3 : Int32) (M : am_M), kp [(634, some o0a, none), (730, some o0a, none)] M id (l_X5_findSure_42 o0a a1 a2 n a3 M) := by
  intro n
  induction n with
  | zero => intro a3 M; exact kp_none
  | succ n ih =>
    intro a3 M
    rw [l_X5_findSure_42]
    refine kp_ite ?_ ?_
    ·
      exact kp_some_m (keeps.rf _ _)
    ·
      refine kp_bind_v (fun z11 => ?_)
      refine kp_ite ?_ ?_
      ·
        refine kp_ite ?_ ?_
        ·
          refine kp_ite ?_ ?_
          ·
            refine kp_bind_v (fun z30 => ?_)
            refine kp_ite ?_ ?_
            ·
              refine kp_let_m (keeps.sl (keeps.rf _ _) (by first | rfl | (simp [kpS]; done))) (fun M35 q1 => ?_)
              refine kp_bind_v (fun r37 => ?_)
              refine kp_bind_m ?_ (fun z38 q2 => ?_)
              ·
                refine kp_ite ?_ ?_
                ·
                  refine kp_ite ?_ ?_
                  ·
                    exact kp_some_m q1
                  ·
                    refine kp_ite ?_ ?_
                    ·
                      refine kp_ite ?_ ?_
                      ·
                        refine kp_ite ?_ ?_
                        ·
                          refine kp_ite ?_ ?_
                          ·
                            refine kp_ite ?_ ?_
                            ·
                              refine kp_ite ?_ ?_
                              ·
                                refine kp_ite ?_ ?_
                                ·
                                  refine kp_let_m (keeps.sl q1 (by first | rfl | (simp [kpS]; done))) (fun M57 q3 => ?_)
                                  refine kp_ite ?_ ?_
                                  ·
                                    refine kp_ite ?_ ?_
                                    ·
                                      refine kp_let_m (keeps.sl q3 (by first | rfl | (simp [kpS]; done))) (fun M60 q4 => ?_)
                                      exact kp_some_m q4
                                    ·
                                      exact kp_none
                                  ·
                                    exact kp_none
                                ·
                                  exact kp_none
                              ·
                                exact kp_none
                            ·
                              exact kp_none
                          ·
                            exact kp_none
                        ·
                          exact kp_none
                      ·
                        exact kp_none
                    ·
                      exact kp_some_m q1
                ·
                  refine kp_ite ?_ ?_
                  ·
                    refine kp_ite ?_ ?_
                    ·
                      refine kp_ite ?_ ?_
                      ·
                        refine kp_ite ?_ ?_
                        ·
                          refine kp_ite ?_ ?_
                          ·
                            refine kp_ite ?_ ?_
                            ·
                              refine kp_let_m (keeps.sl q1 (by first | rfl | (simp [kpS]; done))) (fun M47 q5 => ?_)
                              refine kp_ite ?_ ?_
                              ·
                                refine kp_ite ?_ ?_
                                ·
                                  refine kp_let_m (keeps.sl q5 (by first | rfl | (simp [kpS]; done))) (fun M50 q6 => ?_)
                                  exact kp_some_m q6
                                ·
                                  exact kp_none
                              ·
                                exact kp_none
                            ·
                              exact kp_none
                          ·
                            exact kp_none
                        ·
                          exact kp_none
                      ·
                        exact kp_none
                    ·
                      exact kp_none
                  ·
                    exact kp_none
              refine kp_let_v (fun v64 => ?_)
              exact kp_call (ih _ _) (by first | rfl | (simp [kpSub]; done)) q2
            ·
              exact kp_none
          ·
            exact kp_none
        ·
          exact kp_none
      ·
        exact kp_none
theorem fr_l_X5_findSure_25 {o0a : Nat} {a1 : Int32} : ∀ (n : Nat) (a2 : Int32) (M : am_M), kp [(634, some o0a, none), (730, some o0a, none)] M id (l_X5_findSure_25 o0a a1 n a2 M) := by
  intro n
  induction n with
  | zero => intro a2 M; exact kp_none
  | succ n ih =>
    intro a2 M
    rw [l_X5_findSure_25]
    refine kp_ite ?_ ?_
    ·
      exact kp_some_m (keeps.rf _ _)
    ·
      refine kp_ite ?_ ?_
      ·
        refine kp_let_m (keeps.sl (keeps.rf _ _) (by first | rfl | (simp [kpS]; done))) (fun M10 q1 => ?_)
        refine kp_bind_m (kp_call (fr_l_X5_findSure_42 _ _ _) (by first | rfl | (simp [kpSub]; done)) q1) (fun z66 q2 => ?_)
        refine kp_let_v (fun v69 => ?_)
        exact kp_call (ih _ _) (by first | rfl | (simp [kpSub]; done)) q2
      ·
        exact kp_none
theorem fr_f_X5_findSure {M : am_M} {o : Nat} : kp [(634, some o, none), (730, some o, none), (731, some o, none)] M id (f_X5_findSure M o) := by
  unfold f_X5_findSure
  refine kp_bind_v (fun r2 => ?_)
  refine kp_bind_v (fun z3 => ?_)
  refine kp_bind_m (kp_call fr_f_X5_countBack (by first | rfl | (simp [kpSub]; done)) (keeps.rf _ _)) (fun r8 q1 => ?_)
  refine kp_bind_m (kp_call (fr_l_X5_findSure_25 _ _ _) (by first | rfl | (simp [kpSub]; done)) q1) (fun z71 q2 => ?_)
  exact kp_some_m q2
theorem fr_f_X5_sure {M : am_M} {o : Nat} {x1 : Int32} : kp [(5, some o, some 29), (609, some o, none), (634, some o, none), (728, some o, none), (730, some o, none), (731, some o, none)] M Prod.snd (f_X5_sure M o x1) := by
  unfold f_X5_sure
  refine kp_bind_v (fun r2 => ?_)
  refine kp_ite ?_ ?_
  ·
    refine kp_bind_p (kp_call fr_f_X5_refuse (by first | rfl | (simp [kpSub]; done)) (keeps.rf _ _)) (fun r10 q1 => ?_)
    exact kp_some_p q1
  ·
    refine kp_bind_m (kp_call fr_f_X5_seeAll (by first | rfl | (simp [kpSub]; done)) (keeps.rf _ _)) (fun r4 q2 => ?_)
    refine kp_bind_m (kp_call fr_f_X5_findSure (by first | rfl | (simp [kpSub]; done)) q2) (fun r6 q3 => ?_)
    refine kp_ite ?_ ?_
    ·
      refine kp_ite ?_ ?_
      ·
        exact kp_some_p q3
      ·
        exact kp_none
    ·
      exact kp_some_p q3
theorem fr_f_X5_soFar {M : am_M} {o : Nat} {x1 : Int32} {x2 : Int32} : kp [(5, some o, some 29), (609, some o, none), (728, some o, none), (730, some o, none), (731, some o, none)] M Prod.snd (f_X5_soFar M o x1 x2) := by
  unfold f_X5_soFar
  refine kp_bind_v (fun r2 => ?_)
  refine kp_ite ?_ ?_
  ·
    refine kp_bind_p (kp_call fr_f_X5_refuse (by first | rfl | (simp [kpSub]; done)) (keeps.rf _ _)) (fun r4 q1 => ?_)
    exact kp_some_p q1
  ·
    refine kp_bind_v (fun r6 => ?_)
    refine kp_ite ?_ ?_
    ·
      refine kp_bind_p (kp_call fr_f_X5_refuse (by first | rfl | (simp [kpSub]; done)) (keeps.rf _ _)) (fun r18 q2 => ?_)
      exact kp_some_p q2
    ·
      refine kp_bind_m (kp_call fr_f_X5_seeAll (by first | rfl | (simp [kpSub]; done)) (keeps.rf _ _)) (fun r8 q3 => ?_)
      refine kp_bind_p (kp_call fr_f_X5_count (by first | rfl | (simp [kpSub]; done)) q3) (fun r10 q4 => ?_)
      refine kp_bind_m (kp_call fr_f_X5_countBack (by first | rfl | (simp [kpSub]; done)) q4) (fun r12 q5 => ?_)
      refine kp_ite ?_ ?_
      ·
        exact kp_some_p q5
      ·
        refine kp_ite ?_ ?_
        ·
          refine kp_bind_v (fun r14 => ?_)
          exact kp_some_p q5
        ·
          exact kp_some_p q5
theorem fr_f_X5_spentNow {M : am_M} {o : Nat} : kp [(730, some o, none), (731, some o, none)] M Prod.snd (f_X5_spentNow M o) := by
  unfold f_X5_spentNow
  refine kp_bind_p (kp_call fr_f_X5_count (by first | rfl | (simp [kpSub]; done)) (keeps.rf _ _)) (fun r2 q1 => ?_)
  refine kp_bind_m (kp_call fr_f_X5_countBack (by first | rfl | (simp [kpSub]; done)) q1) (fun r4 q2 => ?_)
  refine kp_bind_v (fun z19 => ?_)
  exact kp_some_p q2
theorem fr_f_X5_spent {M : am_M} {o : Nat} : kp [(5, some o, some 29), (728, some o, none), (730, some o, none), (731, some o, none)] M Prod.snd (f_X5_spent M o) := by
  unfold f_X5_spent
  refine kp_bind_m (kp_call fr_f_X5_seeAll (by first | rfl | (simp [kpSub]; done)) (keeps.rf _ _)) (fun r2 q1 => ?_)
  refine kp_bind_p (kp_call fr_f_X5_spentNow (by first | rfl | (simp [kpSub]; done)) q1) (fun r4 q2 => ?_)
  exact kp_some_p q2
theorem fr_f_X5_mean {M : am_M} {o : Nat} : kp [(5, some o, some 29), (634, some o, none), (728, some o, none), (730, some o, none), (731, some o, none)] M Prod.snd (f_X5_mean M o) := by
  unfold f_X5_mean
  refine kp_bind_m (kp_call fr_f_X5_seeAll (by first | rfl | (simp [kpSub]; done)) (keeps.rf _ _)) (fun r2 q1 => ?_)
  refine kp_bind_m (kp_call fr_f_X5_findSure (by first | rfl | (simp [kpSub]; done)) q1) (fun r4 q2 => ?_)
  refine kp_bind_v (fun z9 => ?_)
  exact kp_some_p q2
theorem fr_f_X5_price {M : am_M} {o : Nat} {x1 : Int32} : kp [(5, some o, some 29), (609, some o, none), (728, some o, none), (730, some o, none)] M Prod.snd (f_X5_price M o x1) := by
  unfold f_X5_price
  refine kp_bind_v (fun r2 => ?_)
  refine kp_ite ?_ ?_
  ·
    refine kp_bind_p (kp_call fr_f_X5_refuse (by first | rfl | (simp [kpSub]; done)) (keeps.rf _ _)) (fun r13 q1 => ?_)
    exact kp_some_p q1
  ·
    refine kp_bind_p (kp_call fr_f_X5_waysOf (by first | rfl | (simp [kpSub]; done)) (keeps.rf _ _)) (fun r4 q2 => ?_)
    refine kp_let_v (fun v5 => ?_)
    refine kp_ite ?_ ?_
    ·
      refine kp_bind_p (kp_call fr_f_X5_refuse (by first | rfl | (simp [kpSub]; done)) q2) (fun r10 q3 => ?_)
      exact kp_some_p q3
    ·
      refine kp_bind_p (kp_call fr_f_X5_count (by first | rfl | (simp [kpSub]; done)) q2) (fun r7 q4 => ?_)
      refine kp_ite ?_ ?_
      ·
        exact kp_some_p q4
      ·
        exact kp_none
theorem fr_f_X5_often {M : am_M} {o : Nat} : kp [(5, some o, some 29), (728, some o, none), (732, some o, none), (733, some o, none)] M Prod.snd (f_X5_often M o) := by
  unfold f_X5_often
  refine kp_bind_m (kp_call fr_f_X5_seeAll (by first | rfl | (simp [kpSub]; done)) (keeps.rf _ _)) (fun r2 q1 => ?_)
  refine kp_bind_m (kp_call fr_f_X5_countMoments (by first | rfl | (simp [kpSub]; done)) q1) (fun r4 q2 => ?_)
  refine kp_bind_v (fun z15 => ?_)
  exact kp_some_p q2
theorem fr_f_X5_half {M : am_M} {o : Nat} : kp [(5, some o, some 29), (609, some o, none), (634, some o, none), (728, some o, none), (730, some o, none), (731, some o, none)] M Prod.snd (f_X5_half M o) := by
  unfold f_X5_half
  refine kp_bind_p (kp_call fr_f_X5_waysOf (by first | rfl | (simp [kpSub]; done)) (keeps.rf _ _)) (fun r2 q1 => ?_)
  refine kp_let_v (fun v3 => ?_)
  refine kp_ite ?_ ?_
  ·
    refine kp_bind_p (kp_call fr_f_X5_refuse (by first | rfl | (simp [kpSub]; done)) q1) (fun r15 q2 => ?_)
    exact kp_some_p q2
  ·
    refine kp_bind_m (kp_call fr_f_X5_findSure (by first | rfl | (simp [kpSub]; done)) q1) (fun r5 q3 => ?_)
    refine kp_let_v (fun v6 => ?_)
    refine kp_bind_v (fun z11 => ?_)
    exact kp_some_p q3
theorem fr_f_X5_isSure {M : am_M} {o : Nat} : kp [(5, some o, some 29)] M Prod.snd (f_X5_isSure M o) := by
  unfold f_X5_isSure
  refine kp_bind_v (fun r2 => ?_)
  refine kp_let_m (keeps.si (keeps.rf _ _) (by first | rfl | (simp [kpS]; done))) (fun M3 q1 => ?_)
  refine kp_bind_v (fun r5 => ?_)
  refine kp_bind_v (fun z6 => ?_)
  refine kp_bind_v (fun r11 => ?_)
  refine kp_bind_v (fun r13 => ?_)
  refine kp_ite ?_ ?_
  ·
    refine kp_ite ?_ ?_
    ·
      exact kp_some_p q1
    ·
      refine kp_ite ?_ ?_
      ·
        exact kp_some_p q1
      ·
        exact kp_some_p q1
  ·
    exact kp_some_p q1
theorem fr_l_X5_head_7 {o0a : Nat} : ∀ (n : Nat) (a1 : Int32) (a2 : Int64) (a4 : Int32) (M : am_M), kp [(5, some o0a, some 29), (728, some o0a, none), (730, some o0a, none), (731, some o0a, none), (735, some o0a, none)] M Prod.snd (l_X5_head_7 o0a n a1 a2 a4 M) := by
  intro n
  induction n with
  | zero => intro a1 a2 a4 M; exact kp_none
  | succ n ih =>
    intro a1 a2 a4 M
    rw [l_X5_head_7]
    refine kp_ite ?_ ?_
    ·
      exact kp_some_p (keeps.rf _ _)
    ·
      refine kp_ite ?_ ?_
      ·
        refine kp_bind_q ?_ (fun z2 q1 => ?_)
        ·
          refine kp_ite ?_ ?_
          ·
            refine kp_ite ?_ ?_
            ·
              refine kp_ite ?_ ?_
              ·
                refine kp_bind_p (kp_call fr_f_X5_drawn (by first | rfl | (simp [kpSub]; done)) (keeps.rf _ _)) (fun r8 q2 => ?_)
                refine kp_let_v (fun v9 => ?_)
                refine kp_ite ?_ ?_
                ·
                  exact kp_some_q q2
                ·
                  refine kp_ite ?_ ?_
                  ·
                    exact kp_some_q q2
                  ·
                    exact kp_some_q q2
              ·
                exact kp_none
            ·
              exact kp_none
          ·
            exact kp_some_q (keeps.rf _ _)
        refine kp_let_v (fun v13 => ?_)
        exact kp_call (ih _ _ _ _) (by first | rfl | (simp [kpSub]; done)) q1
      ·
        exact kp_none
theorem fr_f_X5_head {M : am_M} {o : Nat} : kp [(5, some o, some 29), (609, some o, none), (728, some o, none), (730, some o, none), (731, some o, none), (735, some o, none)] M Prod.snd (f_X5_head M o) := by
  unfold f_X5_head
  refine kp_bind_p (kp_call (fr_l_X5_head_7 _ _ _ _ _) (by first | rfl | (simp [kpSub]; done)) (keeps.rf _ _)) (fun z15 q1 => ?_)
  refine kp_ite ?_ ?_
  ·
    refine kp_bind_p (kp_call fr_f_X5_refuse (by first | rfl | (simp [kpSub]; done)) q1) (fun r19 q2 => ?_)
    exact kp_some_p q2
  ·
    exact kp_some_p q1
theorem fr_l_X5_noRoom_8 {M : am_M} {o0a : Nat} {a1 : Int32} : ∀ (n : Nat) (a2 : Int32) (a3 : Int32), kp [] M Prod.snd (l_X5_noRoom_8 M o0a a1 n a2 a3) := by
  intro n
  induction n with
  | zero => intro a2 a3; exact kp_none
  | succ n ih =>
    intro a2 a3
    rw [l_X5_noRoom_8]
    refine kp_ite ?_ ?_
    ·
      refine kp_ite ?_ ?_
      ·
        exact kp_some_p (keeps.rf _ _)
      ·
        refine kp_ite ?_ ?_
        ·
          refine kp_ite ?_ ?_
          ·
            refine kp_let_v (fun v6 => ?_)
            refine kp_bind_v (fun r8 => ?_)
            refine kp_ite ?_ ?_
            ·
              exact kp_some_p (keeps.rf _ _)
            ·
              refine kp_ite ?_ ?_
              ·
                exact kp_some_p (keeps.rf _ _)
              ·
                refine kp_ite ?_ ?_
                ·
                  refine kp_ite ?_ ?_
                  ·
                    exact kp_some_p (keeps.rf _ _)
                  ·
                    refine kp_let_v (fun v14 => ?_)
                    refine kp_ite ?_ ?_
                    ·
                      refine kp_ite ?_ ?_
                      ·
                        refine kp_ite ?_ ?_
                        ·
                          exact kp_some_p (keeps.rf _ _)
                        ·
                          refine kp_let_v (fun v17 => ?_)
                          exact kp_call (ih _ _) (by first | rfl | (simp [kpSub]; done)) (keeps.rf _ _)
                      ·
                        exact kp_none
                    ·
                      exact kp_none
                ·
                  refine kp_let_v (fun v9 => ?_)
                  refine kp_ite ?_ ?_
                  ·
                    refine kp_ite ?_ ?_
                    ·
                      refine kp_ite ?_ ?_
                      ·
                        exact kp_some_p (keeps.rf _ _)
                      ·
                        refine kp_let_v (fun v12 => ?_)
                        exact kp_call (ih _ _) (by first | rfl | (simp [kpSub]; done)) (keeps.rf _ _)
                    ·
                      exact kp_none
                  ·
                    exact kp_none
          ·
            exact kp_none
        ·
          exact kp_none
    ·
      exact kp_none
theorem fr_f_X5_noRoom {M : am_M} {o : Nat} {x1 : Int32} : kp [(5, some o, some 29), (728, some o, none)] M Prod.snd (f_X5_noRoom M o x1) := by
  unfold f_X5_noRoom
  refine kp_bind_m (kp_call fr_f_X5_seeAll (by first | rfl | (simp [kpSub]; done)) (keeps.rf _ _)) (fun r2 q1 => ?_)
  exact kp_call (fr_l_X5_noRoom_8 _ _ _) (by first | rfl | (simp [kpSub]; done)) q1
theorem fr_f_X5_judge {M : am_M} {o : Nat} {x1 : Int32} : kp [(5, some o, some 29), (609, some o, none), (728, some o, none)] M Prod.snd (f_X5_judge M o x1) := by
  unfold f_X5_judge
  refine kp_bind_p (kp_call fr_f_X5_noRow (by first | rfl | (simp [kpSub]; done)) (keeps.rf _ _)) (fun r2 q1 => ?_)
  refine kp_let_v (fun v3 => ?_)
  refine kp_ite ?_ ?_
  ·
    refine kp_bind_p (kp_call fr_f_X5_noRoom (by first | rfl | (simp [kpSub]; done)) q1) (fun r5 q2 => ?_)
    exact kp_some_p q2
  ·
    exact kp_some_p q1
theorem fr_f_X5_noWhole {M : am_M} {o : Nat} {x1 : Int32} : kp [(5, some o, some 29), (609, some o, none), (728, some o, none)] M Prod.snd (f_X5_noWhole M o x1) := by
  unfold f_X5_noWhole
  refine kp_bind_p (kp_call fr_f_X5_noRow (by first | rfl | (simp [kpSub]; done)) (keeps.rf _ _)) (fun r2 q1 => ?_)
  refine kp_let_v (fun v3 => ?_)
  refine kp_ite ?_ ?_
  ·
    refine kp_bind_p (kp_call fr_f_X5_noRoom (by first | rfl | (simp [kpSub]; done)) q1) (fun r5 q2 => ?_)
    refine kp_ite ?_ ?_
    ·
      refine kp_ite ?_ ?_
      ·
        refine kp_ite ?_ ?_
        ·
          exact kp_some_p q2
        ·
          refine kp_bind_p (kp_call fr_f_X5_refuse (by first | rfl | (simp [kpSub]; done)) q2) (fun r10 q3 => ?_)
          exact kp_some_p q3
      ·
        exact kp_none
    ·
      refine kp_bind_p (kp_call fr_f_X5_refuse (by first | rfl | (simp [kpSub]; done)) q2) (fun r7 q4 => ?_)
      exact kp_some_p q4
  ·
    exact kp_some_p q1
theorem fr_f_X5_told {M : am_M} {o : Nat} {x1 : Int32} {x2 : Int32} : kp [(5, some o, some 29), (609, some o, none), (728, some o, none)] M Prod.snd (f_X5_told M o x1 x2) := by
  unfold f_X5_told
  refine kp_bind_v (fun r2 => ?_)
  refine kp_ite ?_ ?_
  ·
    refine kp_bind_p (kp_call fr_f_X5_refuse (by first | rfl | (simp [kpSub]; done)) (keeps.rf _ _)) (fun r10 q1 => ?_)
    exact kp_some_p q1
  ·
    refine kp_bind_p (kp_call fr_f_X5_noWhole (by first | rfl | (simp [kpSub]; done)) (keeps.rf _ _)) (fun r4 q2 => ?_)
    refine kp_let_v (fun v5 => ?_)
    refine kp_ite ?_ ?_
    ·
      refine kp_bind_v (fun r7 => ?_)
      exact kp_some_p q2
    ·
      exact kp_some_p q2
theorem fr_f_X5_luck {M : am_M} {o : Nat} {x1 : Int32} : kp [(5, some o, some 29), (609, some o, none), (728, some o, none), (732, some o, none), (733, some o, none)] M Prod.snd (f_X5_luck M o x1) := by
  unfold f_X5_luck
  refine kp_bind_p (kp_call fr_f_X5_noWhole (by first | rfl | (simp [kpSub]; done)) (keeps.rf _ _)) (fun r2 q1 => ?_)
  refine kp_let_v (fun v3 => ?_)
  refine kp_ite ?_ ?_
  ·
    refine kp_bind_v (fun r5 => ?_)
    refine kp_bind_m (kp_call fr_f_X5_countMoments (by first | rfl | (simp [kpSub]; done)) q1) (fun r7 q2 => ?_)
    refine kp_bind_v (fun z13 => ?_)
    exact kp_some_p q2
  ·
    exact kp_some_p q1
theorem fr_f_X5_lost {M : am_M} {o : Nat} {x1 : Int32} : kp [(609, some o, none)] M Prod.snd (f_X5_lost M o x1) := by
  unfold f_X5_lost
  refine kp_bind_v (fun r2 => ?_)
  refine kp_ite ?_ ?_
  ·
    refine kp_bind_p (kp_call fr_f_X5_refuse (by first | rfl | (simp [kpSub]; done)) (keeps.rf _ _)) (fun r28 q1 => ?_)
    exact kp_some_p q1
  ·
    refine kp_bind_v (fun r4 => ?_)
    refine kp_bind_v (fun r6 => ?_)
    refine kp_let_v (fun v7 => ?_)
    refine kp_bind_v (fun z8 => ?_)
    refine kp_bind_v (fun z24 => ?_)
    exact kp_some_p (keeps.rf _ _)
theorem fr_f_X5_noBooks {M : am_M} {o : Nat} {x1 : Int32} {x2 : Int32} : kp [(609, some o, none)] M Prod.snd (f_X5_noBooks M o x1 x2) := by
  unfold f_X5_noBooks
  refine kp_bind_p (kp_call fr_f_X5_noRows (by first | rfl | (simp [kpSub]; done)) (keeps.rf _ _)) (fun r2 q1 => ?_)
  refine kp_let_v (fun v3 => ?_)
  refine kp_ite ?_ ?_
  ·
    refine kp_ite ?_ ?_
    ·
      refine kp_bind_v (fun r6 => ?_)
      refine kp_ite ?_ ?_
      ·
        refine kp_ite ?_ ?_
        ·
          refine kp_bind_v (fun r11 => ?_)
          refine kp_ite ?_ ?_
          ·
            exact kp_some_p q1
          ·
            refine kp_bind_p (kp_call fr_f_X5_refuse (by first | rfl | (simp [kpSub]; done)) q1) (fun r13 q2 => ?_)
            exact kp_some_p q2
        ·
          exact kp_none
      ·
        refine kp_bind_p (kp_call fr_f_X5_refuse (by first | rfl | (simp [kpSub]; done)) q1) (fun r8 q3 => ?_)
        exact kp_some_p q3
    ·
      exact kp_none
  ·
    exact kp_some_p q1
theorem fr_l_X5_books_44 {o0a : Nat} {a1 : Int32} {a2 : Int32} {a4 : Int32} : ∀ (n : Nat) (a5 : Int32) (M : am_M), kp [(730, some o0a, none)] M id (l_X5_books_44 o0a a1 a2 a4 n a5 M) := by
  intro n
  induction n with
  | zero => intro a5 M; exact kp_none
  | succ n ih =>
    intro a5 M
    rw [l_X5_books_44]
    refine kp_ite ?_ ?_
    ·
      exact kp_some_m (keeps.rf _ _)
    ·
      refine kp_ite ?_ ?_
      ·
        refine kp_bind_v (fun z9 => ?_)
        refine kp_ite ?_ ?_
        ·
          refine kp_let_m (keeps.sl (keeps.rf _ _) (by first | rfl | (simp [kpS]; done))) (fun M14 q1 => ?_)
          refine kp_bind_m ?_ (fun z15 q2 => ?_)
          ·
            refine kp_ite ?_ ?_
            ·
              exact kp_some_m q1
            ·
              refine kp_ite ?_ ?_
              ·
                refine kp_ite ?_ ?_
                ·
                  refine kp_bind_v (fun r21 => ?_)
                  refine kp_bind_v (fun z22 => ?_)
                  refine kp_ite ?_ ?_
                  ·
                    refine kp_ite ?_ ?_
                    ·
                      refine kp_bind_v (fun z32 => ?_)
                      refine kp_ite ?_ ?_
                      ·
                        refine kp_let_m (keeps.sl q1 (by first | rfl | (simp [kpS]; done))) (fun M40 q3 => ?_)
                        refine kp_ite ?_ ?_
                        ·
                          refine kp_ite ?_ ?_
                          ·
                            refine kp_bind_v (fun z43 => ?_)
                            refine kp_ite ?_ ?_
                            ·
                              refine kp_let_m (keeps.sl q3 (by first | rfl | (simp [kpS]; done))) (fun M51 q4 => ?_)
                              exact kp_some_m q4
                            ·
                              exact kp_none
                          ·
                            exact kp_none
                        ·
                          exact kp_none
                      ·
                        exact kp_none
                    ·
                      exact kp_none
                  ·
                    exact kp_none
                ·
                  exact kp_none
              ·
                exact kp_none
          refine kp_ite ?_ ?_
          ·
            refine kp_ite ?_ ?_
            ·
              refine kp_ite ?_ ?_
              ·
                refine kp_bind_v (fun z56 => ?_)
                refine kp_ite ?_ ?_
                ·
                  refine kp_let_m (keeps.sl q2 (by first | rfl | (simp [kpS]; done))) (fun M63 q5 => ?_)
                  refine kp_let_v (fun v64 => ?_)
                  exact kp_call (ih _ _) (by first | rfl | (simp [kpSub]; done)) q5
                ·
                  exact kp_none
              ·
                exact kp_none
            ·
              exact kp_none
          ·
            exact kp_none
        ·
          exact kp_none
      ·
        exact kp_none
theorem fr_l_X5_books_32 {o0a : Nat} {a1 : Int32} {a2 : Int32} : ∀ (n : Nat) (a4 : Int32) (M : am_M), kp [(730, some o0a, none)] M id (l_X5_books_32 o0a a1 a2 n a4 M) := by
  intro n
  induction n with
  | zero => intro a4 M; exact kp_none
  | succ n ih =>
    intro a4 M
    rw [l_X5_books_32]
    refine kp_ite ?_ ?_
    ·
      exact kp_some_m (keeps.rf _ _)
    ·
      refine kp_bind_m (kp_call (fr_l_X5_books_44 _ _ _) (by first | rfl | (simp [kpSub]; done)) (keeps.rf _ _)) (fun z66 q1 => ?_)
      refine kp_let_v (fun v69 => ?_)
      exact kp_call (ih _ _) (by first | rfl | (simp [kpSub]; done)) q1
theorem fr_f_X5_books {M : am_M} {o : Nat} {x1 : Int32} {x2 : Int32} : kp [(5, some o, some 29), (609, some o, none), (728, some o, none), (730, some o, none)] M Prod.snd (f_X5_books M o x1 x2) := by
  unfold f_X5_books
  refine kp_bind_p (kp_call fr_f_X5_noBooks (by first | rfl | (simp [kpSub]; done)) (keeps.rf _ _)) (fun r2 q1 => ?_)
  refine kp_let_v (fun v3 => ?_)
  refine kp_ite ?_ ?_
  ·
    refine kp_bind_v (fun r5 => ?_)
    refine kp_ite ?_ ?_
    ·
      refine kp_bind_m (kp_call fr_f_X5_seeHeaps (by first | rfl | (simp [kpSub]; done)) q1) (fun r7 q2 => ?_)
      refine kp_bind_m (kp_call (fr_l_X5_books_32 _ _ _) (by first | rfl | (simp [kpSub]; done)) q2) (fun z71 q3 => ?_)
      refine kp_ite ?_ ?_
      ·
        refine kp_bind_v (fun r76 => ?_)
        refine kp_ite ?_ ?_
        ·
          exact kp_some_p q3
        ·
          exact kp_none
      ·
        exact kp_none
    ·
      exact kp_some_p q1
  ·
    exact kp_some_p q1
theorem fr_f_X5_unlike {M : am_M} {o : Nat} {x1 : Int32} {x2 : Int32} : kp [(609, some o, none)] M Prod.snd (f_X5_unlike M o x1 x2) := by
  unfold f_X5_unlike
  refine kp_bind_p (kp_call fr_f_X5_noBooks (by first | rfl | (simp [kpSub]; done)) (keeps.rf _ _)) (fun r2 q1 => ?_)
  refine kp_let_v (fun v3 => ?_)
  refine kp_ite ?_ ?_
  ·
    refine kp_bind_v (fun r5 => ?_)
    exact kp_some_p q1
  ·
    exact kp_some_p q1
theorem fr_f_X5_below {M : am_M} {o : Nat} {x1 : Int32} : kp [(5, some o, some 18)] M Prod.snd (f_X5_below M o x1) := by
  unfold f_X5_below
  refine kp_let_m (keeps.si (keeps.rf _ _) (by first | rfl | (simp [kpS]; done))) (fun M1 q1 => ?_)
  refine kp_ite ?_ ?_
  ·
    exact kp_some_p q1
  ·
    exact kp_none
theorem fr_f_X5_drawOne {M : am_M} {o : Nat} : kp [(5, some o, some 16), (5, some o, some 18), (617, some o, none)] M Prod.snd (f_X5_drawOne M o) := by
  unfold f_X5_drawOne
  refine kp_bind_v (fun r2 => ?_)
  refine kp_bind_v (fun r4 => ?_)
  refine kp_bind_p (kp_call fr_f_X5_below (by first | rfl | (simp [kpSub]; done)) (keeps.rf _ _)) (fun r6 q1 => ?_)
  refine kp_bind_v (fun z7 => ?_)
  refine kp_let_m (keeps.si q1 (by first | rfl | (simp [kpS]; done))) (fun M11 q2 => ?_)
  refine kp_bind_v (fun z12 => ?_)
  refine kp_ite ?_ ?_
  ·
    refine kp_let_m (keeps.si q2 (by first | rfl | (simp [kpS]; done))) (fun M17 q3 => ?_)
    refine kp_ite ?_ ?_
    ·
      exact kp_some_p q3
    ·
      exact kp_some_p q3
  ·
    exact kp_none
theorem fr_f_X5_draw {M : am_M} {o : Nat} : kp [(5, some o, some 16), (5, some o, some 18), (609, some o, none), (617, some o, none)] M Prod.snd (f_X5_draw M o) := by
  unfold f_X5_draw
  refine kp_bind_v (fun r2 => ?_)
  refine kp_ite ?_ ?_
  ·
    refine kp_bind_p (kp_call fr_f_X5_refuse (by first | rfl | (simp [kpSub]; done)) (keeps.rf _ _)) (fun r4 q1 => ?_)
    exact kp_some_p q1
  ·
    refine kp_bind_p (kp_call fr_f_X5_drawOne (by first | rfl | (simp [kpSub]; done)) (keeps.rf _ _)) (fun r6 q2 => ?_)
    exact kp_some_p q2
theorem fr_l_X5_evening_0 {o0a : Nat} : ∀ (n : Nat) (M : am_M), kp [(5, some o0a, some 16), (5, some o0a, some 18), (617, some o0a, none)] M id (l_X5_evening_0 o0a n M) := by
  intro n
  induction n with
  | zero => intro M; exact kp_none
  | succ n ih =>
    intro M
    rw [l_X5_evening_0]
    refine kp_bind_v (fun r9 => ?_)
    refine kp_ite ?_ ?_
    ·
      exact kp_some_m (keeps.rf _ _)
    ·
      refine kp_bind_p (kp_call fr_f_X5_drawOne (by first | rfl | (simp [kpSub]; done)) (keeps.rf _ _)) (fun r11 q1 => ?_)
      exact kp_call (ih _) (by first | rfl | (simp [kpSub]; done)) q1
theorem fr_f_X5_evening {M : am_M} {o : Nat} : kp [(5, some o, some 16), (5, some o, some 18), (617, some o, none)] M Prod.snd (f_X5_evening M o) := by
  unfold f_X5_evening
  refine kp_bind_v (fun r2 => ?_)
  refine kp_bind_m ?_ (fun z3 q1 => ?_)
  ·
    refine kp_ite ?_ ?_
    ·
      exact kp_some_m (keeps.rf _ _)
    ·
      refine kp_bind_p (kp_call fr_f_X5_drawOne (by first | rfl | (simp [kpSub]; done)) (keeps.rf _ _)) (fun r7 q2 => ?_)
      refine kp_bind_m (kp_call (fr_l_X5_evening_0 _ _) (by first | rfl | (simp [kpSub]; done)) q2) (fun z13 q3 => ?_)
      exact kp_some_m q3
  refine kp_bind_v (fun z26 => ?_)
  exact kp_some_p q1
theorem fr_f_X5_seed {M : am_M} {o : Nat} {x1 : Int32} : kp [(5, some o, some 18)] M Prod.snd (f_X5_seed M o x1) := by
  unfold f_X5_seed
  refine kp_let_v (fun v1 => ?_)
  refine kp_let_m (keeps.si (keeps.rf _ _) (by first | rfl | (simp [kpS]; done))) (fun M2 q1 => ?_)
  exact kp_some_p q1
theorem fr_l_X5_over_2 {k0 : Nat} {p0 : Nat} {q0 : Nat} {n0 : Nat} {k1 : Nat} {p1 : Nat} {q1 : Nat} {n1 : Nat} : ∀ (n : Nat) (a2 : Int32) (M : am_M), kp [(k1, some p1, none)] M id (l_X5_over_2 k0 p0 q0 n0 k1 p1 q1 n1 n a2 M) := by
  intro n
  induction n with
  | zero => intro a2 M; exact kp_none
  | succ n ih =>
    intro a2 M
    rw [l_X5_over_2]
    refine kp_ite ?_ ?_
    ·
      exact kp_some_m (keeps.rf _ _)
    ·
      refine kp_ite ?_ ?_
      ·
        refine kp_ite ?_ ?_
        ·
          refine kp_let_m (keeps.si (keeps.rf _ _) (by first | rfl | (simp [kpS]; done))) (fun M3 q1 => ?_)
          refine kp_let_v (fun v4 => ?_)
          exact kp_call (ih _ _) (by first | rfl | (simp [kpSub]; done)) q1
        ·
          exact kp_none
      ·
        exact kp_none
theorem fr_f_X5_over {M : am_M} {k0 : Nat} {p0 : Nat} {q0 : Nat} {n0 : Nat} {k1 : Nat} {p1 : Nat} {q1 : Nat} {n1 : Nat} : kp [(k1, some p1, none)] M id (f_X5_over M k0 p0 q0 n0 k1 p1 q1 n1) := by
  unfold f_X5_over
  refine kp_bind_m (kp_call (fr_l_X5_over_2 _ _ _) (by first | rfl | (simp [kpSub]; done)) (keeps.rf _ _)) (fun z6 q1 => ?_)
  exact kp_some_m q1
theorem fr_l_X5_takeFrom_51 {o0a : Nat} {o1a : Nat} : ∀ (n : Nat) (a2 : Int32) (M : am_M), kp [(715, some o0a, none)] M id (l_X5_takeFrom_51 o0a o1a n a2 M) := by
  intro n
  induction n with
  | zero => intro a2 M; exact kp_none
  | succ n ih =>
    intro a2 M
    rw [l_X5_takeFrom_51]
    refine kp_ite ?_ ?_
    ·
      exact kp_some_m (keeps.rf _ _)
    ·
      refine kp_ite ?_ ?_
      ·
        refine kp_ite ?_ ?_
        ·
          refine kp_bind_m (kp_call fr_f_X5_over (by first | rfl | (simp [kpSub]; done)) (keeps.rf _ _)) (fun r12 q1 => ?_)
          refine kp_let_v (fun v13 => ?_)
          exact kp_call (ih _ _) (by first | rfl | (simp [kpSub]; done)) q1
        ·
          exact kp_none
      ·
        exact kp_none
theorem fr_f_X5_takeFrom {M : am_M} {o : Nat} {o1 : Nat} : kp [(5, some o, some 10), (5, some o, some 14), (5, some o, some 16), (5, some o, some 18), (611, some o, none), (612, some o, none), (613, some o, none), (617, some o, none), (715, some o, none)] M id (f_X5_takeFrom M o o1) := by
  unfold f_X5_takeFrom
  refine kp_let_m (keeps.si (keeps.rf _ _) (by first | rfl | (simp [kpS]; done))) (fun M1 q1 => ?_)
  refine kp_bind_m (kp_call fr_f_X5_over (by first | rfl | (simp [kpSub]; done)) q1) (fun r3 q2 => ?_)
  refine kp_bind_m (kp_call fr_f_X5_over (by first | rfl | (simp [kpSub]; done)) q2) (fun r5 q3 => ?_)
  refine kp_bind_m (kp_call fr_f_X5_over (by first | rfl | (simp [kpSub]; done)) q3) (fun r7 q4 => ?_)
  refine kp_let_m (keeps.si q4 (by first | rfl | (simp [kpS]; done))) (fun M8 q5 => ?_)
  refine kp_bind_m (kp_call (fr_l_X5_takeFrom_51 _ _ _) (by first | rfl | (simp [kpSub]; done)) q5) (fun z15 q6 => ?_)
  refine kp_let_m (keeps.si q6 (by first | rfl | (simp [kpS]; done))) (fun M18 q7 => ?_)
  refine kp_bind_m (kp_call fr_f_X5_over (by first | rfl | (simp [kpSub]; done)) q7) (fun r20 q8 => ?_)
  refine kp_let_m (keeps.si q8 (by first | rfl | (simp [kpS]; done))) (fun M21 q9 => ?_)
  exact kp_some_m q9
theorem fr_l_X0_keepNotAbove_2 {a1 : Int32} : ∀ (n : Nat) (a2 : Int32) (M : am_M), kp [(103, some 0, none)] M id (l_X0_keepNotAbove_2 a1 n a2 M) := by
  intro n
  induction n with
  | zero => intro a2 M; exact kp_none
  | succ n ih =>
    intro a2 M
    rw [l_X0_keepNotAbove_2]
    refine kp_ite ?_ ?_
    ·
      exact kp_some_m (keeps.rf _ _)
    ·
      refine kp_ite ?_ ?_
      ·
        refine kp_bind_v (fun r3 => ?_)
        refine kp_ite ?_ ?_
        ·
          refine kp_let_m (keeps.si (keeps.rf _ _) (by first | rfl | (simp [kpS]; done))) (fun M5 q1 => ?_)
          refine kp_let_v (fun v6 => ?_)
          exact kp_call (ih _ _) (by first | rfl | (simp [kpSub]; done)) q1
        ·
          exact kp_none
      ·
        exact kp_none
theorem fr_f_X0_keepNotAbove {M : am_M} {x1 : Int32} : kp [(103, some 0, none)] M id (f_X0_keepNotAbove M x1) := by
  unfold f_X0_keepNotAbove
  refine kp_bind_m (kp_call (fr_l_X0_keepNotAbove_2 _ _ _) (by first | rfl | (simp [kpSub]; done)) (keeps.rf _ _)) (fun z8 q1 => ?_)
  exact kp_some_m q1
theorem fr_f_X3_statement {M : am_M} {o1 : Nat} : kp [(1, some o1, some 0), (1, some o1, some 1), (1, some o1, some 2), (1, some o1, some 6), (1, some o1, some 7), (1, some o1, some 9), (3, some 0, some 1), (3, some 0, some 3), (3, some 0, some 4), (3, some 0, some 5), (203, some o1, none), (204, some o1, none), (205, some o1, none), (208, some o1, none), (210, some o1, none), (211, some o1, none), (212, some o1, none)] M Prod.snd (f_X3_statement M o1) := by
  unfold f_X3_statement
  refine kp_bind_v (fun r2 => ?_)
  refine kp_ite ?_ ?_
  ·
    refine kp_bind_v (fun r4 => ?_)
    refine kp_ite ?_ ?_
    ·
      refine kp_bind_v (fun r6 => ?_)
      refine kp_ite ?_ ?_
      ·
        refine kp_bind_v (fun r8 => ?_)
        refine kp_ite ?_ ?_
        ·
          exact kp_some_p (keeps.rf _ _)
        ·
          refine kp_bind_p (kp_call fr_f_X3_swapStatement (by first | rfl | (simp [kpSub]; done)) (keeps.rf _ _)) (fun r10 q1 => ?_)
          refine kp_ite ?_ ?_
          ·
            exact kp_some_p q1
          ·
            exact kp_some_p q1
      ·
        refine kp_bind_p (kp_call fr_f_X3_readStatement (by first | rfl | (simp [kpSub]; done)) (keeps.rf _ _)) (fun r14 q2 => ?_)
        refine kp_ite ?_ ?_
        ·
          exact kp_some_p q2
        ·
          exact kp_none
    ·
      refine kp_bind_p (kp_call fr_f_X3_factStatement (by first | rfl | (simp [kpSub]; done)) (keeps.rf _ _)) (fun r18 q3 => ?_)
      refine kp_ite ?_ ?_
      ·
        exact kp_some_p q3
      ·
        exact kp_none
  ·
    refine kp_bind_p (kp_call fr_f_X3_heapStatement (by first | rfl | (simp [kpSub]; done)) (keeps.rf _ _)) (fun r22 q4 => ?_)
    refine kp_ite ?_ ?_
    ·
      exact kp_some_p q4
    ·
      exact kp_none
theorem fr_l_X3_readInto_7 {o1a : Nat} : ∀ (n : Nat) (a2 : Int32) (M : am_M), kp [(1, some o1a, some 0), (1, some o1a, some 1), (1, some o1a, some 2), (1, some o1a, some 6), (1, some o1a, some 7), (1, some o1a, some 9), (3, some 0, some 1), (3, some 0, some 3), (3, some 0, some 4), (3, some 0, some 5), (203, some o1a, none), (204, some o1a, none), (205, some o1a, none), (208, some o1a, none), (210, some o1a, none), (211, some o1a, none), (212, some o1a, none)] M Prod.snd (l_X3_readInto_7 o1a n a2 M) := by
  intro n
  induction n with
  | zero => intro a2 M; exact kp_none
  | succ n ih =>
    intro a2 M
    rw [l_X3_readInto_7]
    refine kp_ite ?_ ?_
    ·
      exact kp_some_p (keeps.rf _ _)
    ·
      refine kp_bind_m (kp_call fr_f_X3_nextToken (by first | rfl | (simp [kpSub]; done)) (keeps.rf _ _)) (fun r3 q1 => ?_)
      refine kp_bind_p (kp_call fr_f_X3_statement (by first | rfl | (simp [kpSub]; done)) q1) (fun r5 q2 => ?_)
      refine kp_ite ?_ ?_
      ·
        exact kp_some_p q2
      ·
        refine kp_bind_m (kp_call fr_f_X3_nextToken (by first | rfl | (simp [kpSub]; done)) q2) (fun r7 q3 => ?_)
        refine kp_ite ?_ ?_
        ·
          exact kp_some_p q3
        ·
          refine kp_ite ?_ ?_
          ·
            refine kp_let_v (fun v8 => ?_)
            exact kp_call (ih _ _) (by first | rfl | (simp [kpSub]; done)) q3
          ·
            exact kp_some_p q3
theorem fr_f_X3_readInto {M : am_M} {o1 : Nat} : kp [(1, some o1, some 0), (1, some o1, some 1), (1, some o1, some 2), (1, some o1, some 6), (1, some o1, some 7), (1, some o1, some 9), (3, some 0, some 1), (3, some 0, some 3), (3, some 0, some 4), (3, some 0, some 5), (203, some o1, none), (204, some o1, none), (205, some o1, none), (208, some o1, none), (210, some o1, none), (211, some o1, none), (212, some o1, none)] M Prod.snd (f_X3_readInto M o1) := by
  unfold f_X3_readInto
  refine kp_let_m (keeps.si (keeps.rf _ _) (by first | rfl | (simp [kpS]; done))) (fun M1 q1 => ?_)
  exact kp_call (fr_l_X3_readInto_7 _ _ _) (by first | rfl | (simp [kpSub]; done)) q1
theorem fr_f_X4_drum {M : am_M} : kp [(1, some 0, some 0), (1, some 0, some 1), (1, some 0, some 2), (1, some 0, some 6), (1, some 0, some 7), (1, some 0, some 9), (1, some 0, some 13), (1, some 2, some 0), (1, some 2, some 1), (1, some 2, some 2), (1, some 2, some 6), (1, some 2, some 7), (1, some 2, some 9), (1, some 2, some 13), (3, some 0, some 0), (3, some 0, some 1), (3, some 0, some 3), (3, some 0, some 4), (3, some 0, some 5), (203, some 0, none), (203, some 2, none), (204, some 0, none), (204, some 2, none), (205, some 0, none), (205, some 2, none), (208, some 0, none), (208, some 2, none), (210, some 0, none), (210, some 2, none), (211, some 0, none), (211, some 2, none), (212, some 0, none), (212, some 2, none), (507, some 0, none)] M Prod.snd (f_X4_drum M) := by
  unfold f_X4_drum
  refine kp_bind_m (kp_call fr_f_X1_takeOver (by first | rfl | (simp [kpSub]; done)) (keeps.rf _ _)) (fun r2 q1 => ?_)
  refine kp_bind_p (kp_call fr_f_X3_readInto (by first | rfl | (simp [kpSub]; done)) q1) (fun r4 q2 => ?_)
  refine kp_let_v (fun v5 => ?_)
  refine kp_let_m (keeps.si q2 (by first | rfl | (simp [kpS]; done))) (fun M6 q3 => ?_)
  refine kp_ite ?_ ?_
  ·
    refine kp_bind_m (kp_call fr_f_X1_takeOver (by first | rfl | (simp [kpSub]; done)) q3) (fun r8 q4 => ?_)
    refine kp_bind_p (kp_call fr_f_X4_refuse (by first | rfl | (simp [kpSub]; done)) q4) (fun r10 q5 => ?_)
    exact kp_some_p q5
  ·
    exact kp_some_p q3
theorem fr_f_X4_fittingNotAbove {M : am_M} {x1 : Int32} : kp [(0, some 0, some 0), (0, some 0, some 1), (103, some 0, none), (105, some 0, none), (106, some 0, none)] M Prod.snd (f_X4_fittingNotAbove M x1) := by
  unfold f_X4_fittingNotAbove
  refine kp_bind_m (kp_call fr_f_X0_layFitting (by first | rfl | (simp [kpSub]; done)) (keeps.rf _ _)) (fun r2 q1 => ?_)
  refine kp_bind_m (kp_call fr_f_X0_keepNotAbove (by first | rfl | (simp [kpSub]; done)) q1) (fun r4 q2 => ?_)
  refine kp_bind_p (kp_call fr_f_X0_countRows (by first | rfl | (simp [kpSub]; done)) q2) (fun r6 q3 => ?_)
  exact kp_some_p q3
theorem fr_f_X4_greatest {M : am_M} {x1 : Int32} : kp [(0, some 0, some 0), (0, some 0, some 1), (103, some 0, none), (105, some 0, none), (106, some 0, none), (507, some 0, none)] M Prod.snd (f_X4_greatest M x1) := by
  unfold f_X4_greatest
  refine kp_bind_v (fun r2 => ?_)
  refine kp_ite ?_ ?_
  ·
    refine kp_bind_p (kp_call fr_f_X4_refuse (by first | rfl | (simp [kpSub]; done)) (keeps.rf _ _)) (fun r8 q1 => ?_)
    exact kp_some_p q1
  ·
    refine kp_bind_p (kp_call fr_f_X4_fittingNotAbove (by first | rfl | (simp [kpSub]; done)) (keeps.rf _ _)) (fun r4 q2 => ?_)
    refine kp_bind_p (kp_call fr_f_X4_fittingNotAbove (by first | rfl | (simp [kpSub]; done)) q2) (fun r6 q3 => ?_)
    exact kp_some_p q3
theorem fr_f_X5_statement {M : am_M} {o : Nat} : kp [(5, some o, some 10), (5, some o, some 14), (5, some o, some 16), (5, some o, some 21), (5, some o, some 22), (5, some o, some 23), (5, some o, some 24), (5, some o, some 25), (609, some o, none), (611, some o, none), (612, some o, none), (613, some o, none), (617, some o, none), (626, some o, none), (715, some o, none)] M Prod.snd (f_X5_statement M o) := by
  unfold f_X5_statement
  refine kp_bind_v (fun r2 => ?_)
  refine kp_ite ?_ ?_
  ·
    refine kp_bind_v (fun r4 => ?_)
    refine kp_ite ?_ ?_
    ·
      refine kp_bind_v (fun r6 => ?_)
      refine kp_ite ?_ ?_
      ·
        refine kp_bind_v (fun r8 => ?_)
        refine kp_ite ?_ ?_
        ·
          refine kp_bind_p (kp_call fr_f_X5_wrong (by first | rfl | (simp [kpSub]; done)) (keeps.rf _ _)) (fun r10 q1 => ?_)
          refine kp_ite ?_ ?_
          ·
            exact kp_some_p q1
          ·
            exact kp_none
        ·
          refine kp_ite ?_ ?_
          ·
            refine kp_bind_p (kp_call fr_f_X5_wrong (by first | rfl | (simp [kpSub]; done)) (keeps.rf _ _)) (fun r24 q2 => ?_)
            refine kp_ite ?_ ?_
            ·
              exact kp_some_p q2
            ·
              exact kp_none
          ·
            refine kp_bind_p (kp_call fr_f_X5_tells (by first | rfl | (simp [kpSub]; done)) (keeps.rf _ _)) (fun r13 q3 => ?_)
            refine kp_ite ?_ ?_
            ·
              exact kp_some_p q3
            ·
              refine kp_bind_p (kp_call fr_f_X5_number (by first | rfl | (simp [kpSub]; done)) q3) (fun r15 q4 => ?_)
              refine kp_ite ?_ ?_
              ·
                exact kp_some_p q4
              ·
                refine kp_bind_p (kp_call fr_f_X5_number (by first | rfl | (simp [kpSub]; done)) q4) (fun r17 q5 => ?_)
                refine kp_ite ?_ ?_
                ·
                  exact kp_some_p q5
                ·
                  refine kp_bind_p (kp_call fr_f_X5_fact (by first | rfl | (simp [kpSub]; done)) q5) (fun r19 q6 => ?_)
                  exact kp_some_p q6
      ·
        refine kp_bind_p (kp_call fr_f_X5_readTold (by first | rfl | (simp [kpSub]; done)) (keeps.rf _ _)) (fun r29 q7 => ?_)
        refine kp_ite ?_ ?_
        ·
          exact kp_some_p q7
        ·
          exact kp_none
    ·
      refine kp_ite ?_ ?_
      ·
        refine kp_bind_p (kp_call fr_f_X5_swapTold (by first | rfl | (simp [kpSub]; done)) (keeps.rf _ _)) (fun r60 q8 => ?_)
        refine kp_ite ?_ ?_
        ·
          exact kp_some_p q8
        ·
          exact kp_none
      ·
        refine kp_bind_v (fun r33 => ?_)
        refine kp_ite ?_ ?_
        ·
          refine kp_bind_v (fun r35 => ?_)
          refine kp_ite ?_ ?_
          ·
            refine kp_bind_p (kp_call fr_f_X5_wrong (by first | rfl | (simp [kpSub]; done)) (keeps.rf _ _)) (fun r37 q9 => ?_)
            refine kp_ite ?_ ?_
            ·
              exact kp_some_p q9
            ·
              exact kp_none
          ·
            refine kp_ite ?_ ?_
            ·
              refine kp_bind_p (kp_call fr_f_X5_wrong (by first | rfl | (simp [kpSub]; done)) (keeps.rf _ _)) (fun r51 q10 => ?_)
              refine kp_ite ?_ ?_
              ·
                exact kp_some_p q10
              ·
                exact kp_none
            ·
              refine kp_bind_p (kp_call fr_f_X5_tells (by first | rfl | (simp [kpSub]; done)) (keeps.rf _ _)) (fun r40 q11 => ?_)
              refine kp_ite ?_ ?_
              ·
                exact kp_some_p q11
              ·
                refine kp_bind_p (kp_call fr_f_X5_number (by first | rfl | (simp [kpSub]; done)) q11) (fun r42 q12 => ?_)
                refine kp_ite ?_ ?_
                ·
                  exact kp_some_p q12
                ·
                  refine kp_bind_p (kp_call fr_f_X5_number (by first | rfl | (simp [kpSub]; done)) q12) (fun r44 q13 => ?_)
                  refine kp_ite ?_ ?_
                  ·
                    exact kp_some_p q13
                  ·
                    refine kp_bind_p (kp_call fr_f_X5_fact (by first | rfl | (simp [kpSub]; done)) q13) (fun r46 q14 => ?_)
                    exact kp_some_p q14
        ·
          refine kp_bind_p (kp_call fr_f_X5_readTold (by first | rfl | (simp [kpSub]; done)) (keeps.rf _ _)) (fun r56 q15 => ?_)
          refine kp_ite ?_ ?_
          ·
            exact kp_some_p q15
          ·
            exact kp_none
  ·
    refine kp_ite ?_ ?_
    ·
      refine kp_ite ?_ ?_
      ·
        refine kp_bind_v (fun r126 => ?_)
        refine kp_ite ?_ ?_
        ·
          refine kp_bind_v (fun r128 => ?_)
          refine kp_ite ?_ ?_
          ·
            refine kp_bind_v (fun r130 => ?_)
            refine kp_ite ?_ ?_
            ·
              refine kp_bind_p (kp_call fr_f_X5_wrong (by first | rfl | (simp [kpSub]; done)) (keeps.rf _ _)) (fun r132 q16 => ?_)
              refine kp_ite ?_ ?_
              ·
                exact kp_some_p q16
              ·
                exact kp_none
            ·
              refine kp_ite ?_ ?_
              ·
                refine kp_bind_p (kp_call fr_f_X5_wrong (by first | rfl | (simp [kpSub]; done)) (keeps.rf _ _)) (fun r146 q17 => ?_)
                refine kp_ite ?_ ?_
                ·
                  exact kp_some_p q17
                ·
                  exact kp_none
              ·
                refine kp_bind_p (kp_call fr_f_X5_tells (by first | rfl | (simp [kpSub]; done)) (keeps.rf _ _)) (fun r135 q18 => ?_)
                refine kp_ite ?_ ?_
                ·
                  exact kp_some_p q18
                ·
                  refine kp_bind_p (kp_call fr_f_X5_number (by first | rfl | (simp [kpSub]; done)) q18) (fun r137 q19 => ?_)
                  refine kp_ite ?_ ?_
                  ·
                    exact kp_some_p q19
                  ·
                    refine kp_bind_p (kp_call fr_f_X5_number (by first | rfl | (simp [kpSub]; done)) q19) (fun r139 q20 => ?_)
                    refine kp_ite ?_ ?_
                    ·
                      exact kp_some_p q20
                    ·
                      refine kp_bind_p (kp_call fr_f_X5_fact (by first | rfl | (simp [kpSub]; done)) q20) (fun r141 q21 => ?_)
                      exact kp_some_p q21
          ·
            refine kp_bind_p (kp_call fr_f_X5_readTold (by first | rfl | (simp [kpSub]; done)) (keeps.rf _ _)) (fun r151 q22 => ?_)
            refine kp_ite ?_ ?_
            ·
              exact kp_some_p q22
            ·
              exact kp_none
        ·
          refine kp_ite ?_ ?_
          ·
            refine kp_bind_p (kp_call fr_f_X5_swapTold (by first | rfl | (simp [kpSub]; done)) (keeps.rf _ _)) (fun r182 q23 => ?_)
            refine kp_ite ?_ ?_
            ·
              exact kp_some_p q23
            ·
              exact kp_none
          ·
            refine kp_bind_v (fun r155 => ?_)
            refine kp_ite ?_ ?_
            ·
              refine kp_bind_v (fun r157 => ?_)
              refine kp_ite ?_ ?_
              ·
                refine kp_bind_p (kp_call fr_f_X5_wrong (by first | rfl | (simp [kpSub]; done)) (keeps.rf _ _)) (fun r159 q24 => ?_)
                refine kp_ite ?_ ?_
                ·
                  exact kp_some_p q24
                ·
                  exact kp_none
              ·
                refine kp_ite ?_ ?_
                ·
                  refine kp_bind_p (kp_call fr_f_X5_wrong (by first | rfl | (simp [kpSub]; done)) (keeps.rf _ _)) (fun r173 q25 => ?_)
                  refine kp_ite ?_ ?_
                  ·
                    exact kp_some_p q25
                  ·
                    exact kp_none
                ·
                  refine kp_bind_p (kp_call fr_f_X5_tells (by first | rfl | (simp [kpSub]; done)) (keeps.rf _ _)) (fun r162 q26 => ?_)
                  refine kp_ite ?_ ?_
                  ·
                    exact kp_some_p q26
                  ·
                    refine kp_bind_p (kp_call fr_f_X5_number (by first | rfl | (simp [kpSub]; done)) q26) (fun r164 q27 => ?_)
                    refine kp_ite ?_ ?_
                    ·
                      exact kp_some_p q27
                    ·
                      refine kp_bind_p (kp_call fr_f_X5_number (by first | rfl | (simp [kpSub]; done)) q27) (fun r166 q28 => ?_)
                      refine kp_ite ?_ ?_
                      ·
                        exact kp_some_p q28
                      ·
                        refine kp_bind_p (kp_call fr_f_X5_fact (by first | rfl | (simp [kpSub]; done)) q28) (fun r168 q29 => ?_)
                        exact kp_some_p q29
            ·
              refine kp_bind_p (kp_call fr_f_X5_readTold (by first | rfl | (simp [kpSub]; done)) (keeps.rf _ _)) (fun r178 q30 => ?_)
              refine kp_ite ?_ ?_
              ·
                exact kp_some_p q30
              ·
                exact kp_none
      ·
        refine kp_bind_p (kp_call fr_f_X5_heapTold (by first | rfl | (simp [kpSub]; done)) (keeps.rf _ _)) (fun r187 q31 => ?_)
        refine kp_ite ?_ ?_
        ·
          exact kp_some_p q31
        ·
          exact kp_none
    ·
      refine kp_bind_v (fun r65 => ?_)
      refine kp_ite ?_ ?_
      ·
        refine kp_bind_v (fun r67 => ?_)
        refine kp_ite ?_ ?_
        ·
          refine kp_bind_v (fun r69 => ?_)
          refine kp_ite ?_ ?_
          ·
            refine kp_bind_p (kp_call fr_f_X5_wrong (by first | rfl | (simp [kpSub]; done)) (keeps.rf _ _)) (fun r71 q32 => ?_)
            refine kp_ite ?_ ?_
            ·
              exact kp_some_p q32
            ·
              exact kp_none
          ·
            refine kp_ite ?_ ?_
            ·
              refine kp_bind_p (kp_call fr_f_X5_wrong (by first | rfl | (simp [kpSub]; done)) (keeps.rf _ _)) (fun r85 q33 => ?_)
              refine kp_ite ?_ ?_
              ·
                exact kp_some_p q33
              ·
                exact kp_none
            ·
              refine kp_bind_p (kp_call fr_f_X5_tells (by first | rfl | (simp [kpSub]; done)) (keeps.rf _ _)) (fun r74 q34 => ?_)
              refine kp_ite ?_ ?_
              ·
                exact kp_some_p q34
              ·
                refine kp_bind_p (kp_call fr_f_X5_number (by first | rfl | (simp [kpSub]; done)) q34) (fun r76 q35 => ?_)
                refine kp_ite ?_ ?_
                ·
                  exact kp_some_p q35
                ·
                  refine kp_bind_p (kp_call fr_f_X5_number (by first | rfl | (simp [kpSub]; done)) q35) (fun r78 q36 => ?_)
                  refine kp_ite ?_ ?_
                  ·
                    exact kp_some_p q36
                  ·
                    refine kp_bind_p (kp_call fr_f_X5_fact (by first | rfl | (simp [kpSub]; done)) q36) (fun r80 q37 => ?_)
                    exact kp_some_p q37
        ·
          refine kp_bind_p (kp_call fr_f_X5_readTold (by first | rfl | (simp [kpSub]; done)) (keeps.rf _ _)) (fun r90 q38 => ?_)
          refine kp_ite ?_ ?_
          ·
            exact kp_some_p q38
          ·
            exact kp_none
      ·
        refine kp_ite ?_ ?_
        ·
          refine kp_bind_p (kp_call fr_f_X5_swapTold (by first | rfl | (simp [kpSub]; done)) (keeps.rf _ _)) (fun r121 q39 => ?_)
          refine kp_ite ?_ ?_
          ·
            exact kp_some_p q39
          ·
            exact kp_none
        ·
          refine kp_bind_v (fun r94 => ?_)
          refine kp_ite ?_ ?_
          ·
            refine kp_bind_v (fun r96 => ?_)
            refine kp_ite ?_ ?_
            ·
              refine kp_bind_p (kp_call fr_f_X5_wrong (by first | rfl | (simp [kpSub]; done)) (keeps.rf _ _)) (fun r98 q40 => ?_)
              refine kp_ite ?_ ?_
              ·
                exact kp_some_p q40
              ·
                exact kp_none
            ·
              refine kp_ite ?_ ?_
              ·
                refine kp_bind_p (kp_call fr_f_X5_wrong (by first | rfl | (simp [kpSub]; done)) (keeps.rf _ _)) (fun r112 q41 => ?_)
                refine kp_ite ?_ ?_
                ·
                  exact kp_some_p q41
                ·
                  exact kp_none
              ·
                refine kp_bind_p (kp_call fr_f_X5_tells (by first | rfl | (simp [kpSub]; done)) (keeps.rf _ _)) (fun r101 q42 => ?_)
                refine kp_ite ?_ ?_
                ·
                  exact kp_some_p q42
                ·
                  refine kp_bind_p (kp_call fr_f_X5_number (by first | rfl | (simp [kpSub]; done)) q42) (fun r103 q43 => ?_)
                  refine kp_ite ?_ ?_
                  ·
                    exact kp_some_p q43
                  ·
                    refine kp_bind_p (kp_call fr_f_X5_number (by first | rfl | (simp [kpSub]; done)) q43) (fun r105 q44 => ?_)
                    refine kp_ite ?_ ?_
                    ·
                      exact kp_some_p q44
                    ·
                      refine kp_bind_p (kp_call fr_f_X5_fact (by first | rfl | (simp [kpSub]; done)) q44) (fun r107 q45 => ?_)
                      exact kp_some_p q45
          ·
            refine kp_bind_p (kp_call fr_f_X5_readTold (by first | rfl | (simp [kpSub]; done)) (keeps.rf _ _)) (fun r117 q46 => ?_)
            refine kp_ite ?_ ?_
            ·
              exact kp_some_p q46
            ·
              exact kp_none
theorem fr_l_X5_readAll_23 {o0a : Nat} : ∀ (n : Nat) (M : am_M), kp [(5, some o0a, some 10), (5, some o0a, some 14), (5, some o0a, some 16), (5, some o0a, some 21), (5, some o0a, some 22), (5, some o0a, some 23), (5, some o0a, some 24), (5, some o0a, some 25), (5, some o0a, some 27), (609, some o0a, none), (611, some o0a, none), (612, some o0a, none), (613, some o0a, none), (617, some o0a, none), (626, some o0a, none), (715, some o0a, none)] M Prod.snd (l_X5_readAll_23 o0a n M) := by
  intro n
  induction n with
  | zero => intro M; exact kp_none
  | succ n ih =>
    intro M
    rw [l_X5_readAll_23]
    refine kp_ite ?_ ?_
    ·
      exact kp_some_p (keeps.rf _ _)
    ·
      refine kp_ite ?_ ?_
      ·
        refine kp_bind_m (kp_call fr_f_X5_look (by first | rfl | (simp [kpSub]; done)) (keeps.rf _ _)) (fun r8 q1 => ?_)
        refine kp_bind_p (kp_call fr_f_X5_statement (by first | rfl | (simp [kpSub]; done)) q1) (fun r10 q2 => ?_)
        refine kp_ite ?_ ?_
        ·
          exact kp_some_p q2
        ·
          refine kp_let_m (keeps.si q2 (by first | rfl | (simp [kpS]; done))) (fun M11 q3 => ?_)
          exact kp_call (ih _) (by first | rfl | (simp [kpSub]; done)) q3
      ·
        refine kp_bind_p (kp_call fr_f_X5_wrong (by first | rfl | (simp [kpSub]; done)) (keeps.rf _ _)) (fun r14 q4 => ?_)
        refine kp_ite ?_ ?_
        ·
          exact kp_some_p q4
        ·
          exact kp_none
theorem fr_f_X5_readAll {M : am_M} {o : Nat} : kp [(5, some o, some 10), (5, some o, some 14), (5, some o, some 16), (5, some o, some 21), (5, some o, some 22), (5, some o, some 23), (5, some o, some 24), (5, some o, some 25), (5, some o, some 27), (609, some o, none), (611, some o, none), (612, some o, none), (613, some o, none), (617, some o, none), (626, some o, none), (715, some o, none)] M Prod.snd (f_X5_readAll M o) := by
  unfold f_X5_readAll
  refine kp_let_m (keeps.si (keeps.rf _ _) (by first | rfl | (simp [kpS]; done))) (fun M1 q1 => ?_)
  refine kp_let_m (keeps.si q1 (by first | rfl | (simp [kpS]; done))) (fun M2 q2 => ?_)
  refine kp_bind_m (kp_call fr_f_X5_look (by first | rfl | (simp [kpSub]; done)) q2) (fun r4 q3 => ?_)
  refine kp_bind_p (kp_call fr_f_X5_statement (by first | rfl | (simp [kpSub]; done)) q3) (fun r6 q4 => ?_)
  refine kp_ite ?_ ?_
  ·
    exact kp_some_p q4
  ·
    exact kp_call (fr_l_X5_readAll_23 _ _) (by first | rfl | (simp [kpSub]; done)) q4
