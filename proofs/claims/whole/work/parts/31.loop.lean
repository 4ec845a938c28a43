/-! THE CLAIM OUT OF ONE WALK OF THE LAW'S BODY. Your part is whole_start (and what it stands on); all else here is the same for every law, but numbers. -/
def R_law : String := "AlwaysAheadLaw"
def lw_P (b : Addr) (xs : List Int32) (args : Array Value) (s : State) : Prop := args = #[.ref b] ∧ s.IntsAt b xs ∧ xs.length ≤ 384 ∧ (Jvm.Cond.and given_1 narrow_1).before args s = true
def lw_Q (_ : Array Value) (s : State) (o : Outcome) (t : State) : Prop := o = .returned (some (.int 1)) ∧ Framed s o t [] 600000 7302250
def lw_Z (below : List Frame) (a : Array Value) (s : State) : State → Prop := fun t => ∃ o, t.status = .running ∧ Ended t below o ∧ lw_Q a s o t
/-- the law's own end, with 1 on the stack, nothing written that was there before, its room as the claim has it -/
theorem lw_ret {p : Program} {l : Launch} {e : Env} {s : State} {m : MethodId} {below : List Frame} {meth : Method} {c : Code} {b : Nat} (hx : p.tables.exec = Jvm.exec) (hb : c.code = code) (hr : meth.sig.returnType = ret) (hlocks : meth.locks = false) {pc : Nat} {H : Heap} {ls : Array Slot} (hdg : decode code pc = .ok (.ireturn, 1)) : W p l e room_1 s m #[Value.ref b] below meth c H [] 600000 7302250 (lw_Z below #[Value.ref b] s) (F0 m pc ls [.int 1]) := by
  intro T hT X
  obtain ⟨fs, hret, hrun, hended, hW, hframe⟩ := X.leave (v := some (.int 1)) (hlocks := hlocks) (fun h => by rw [hr] at h; cases h)
  have hmeth' : T.vm.method? m = some meth := X.method'
  refine ⟨T.setFrames fs, ?_, .returned (some (.int 1)), hrun, hended, rfl, ⟨_, rfl⟩, hW, hframe⟩
  jvm_step X.here [X.here.top, hx, hb, hdg, hmeth', hr, ret, narrow_b1]
  (try refine ⟨rfl, ?_⟩); (try refine ⟨rfl, ?_⟩)
  first | (intro acts; rw [hret _ acts rfl rfl rfl]) | rw [hret _ _ rfl rfl rfl]
  exact Steps.refl _
/-- what holds at the law's entry: the machine, the code, the tables' words (any of lw_tbl by 'hts w (by decide +kernel)'), the script of L ints xs at the cell b, what the Statement gives of the start (any of its parts by flat_of_before) -/
def lw_At (p : Program) (s : State) (m : MethodId) (meth : Method) (c : Code) (b L : Nat) (xs : Nat → Int32) : Prop :=
  p.tables.exec = Jvm.exec ∧ c.code = code ∧ meth.sig.returnType = ret ∧ c.maxLocals = 4 ∧ s.vm.findClass R_law = some m.cls ∧ (∀ w ∈ lw_tbl, w.before #[Value.ref b] s = true) ∧ va_X b L xs s s.heap ∧ b < s.heap.size ∧ meth.locks = false ∧ (Jvm.Cond.and given_1 narrow_1).before #[Value.ref b] s = true
-- own rows
theorem gv_lwret {F : gv_F} {K : am_K} {M : am_M} {b L cells slots : Nat} {xs : Nat → Int32} {ls : List (Nat × am_V)} (hF : lw_F F b L xs) (hA : F.2.2.2.2.2.1 = #[Value.ref b]) (hQ : F.2.2.2.2.2.2.2.2.2.1 = lw_Z F.2.2.2.2.2.2.1 #[Value.ref b] F.2.2.2.1) (hc : cells ≤ 600000) (hs : slots ≤ 7302250) : gv F m_L_law K cells slots 1503 ls [.inl 1] M := by
  intro H locs la hK hI hP hS hA0 hl hlk hsk
  refine W.widen hc hs ?_
  rw [hF.2.1] at hS
  refine va_forget (fun q hq => hS.2.2 q hq) ?_
  rw [hF.1, hA, hQ]
  exact lw_ret hI.1 hI.2.1 hI.2.2.1 hI.2.2.2.2.2.2.1 dL_law_1503
theorem lw_sw (w : Int32) : (w.toInt < 0 ∨ 48 < w.toInt) ∨ ∃ n : Nat, n < 49 ∧ w = Int32.ofNat n := by
  by_cases h : w.toInt < 0 ∨ 48 < w.toInt
  · exact Or.inl h
  · refine Or.inr ⟨w.toInt.toNat, by omega, ?_⟩
    rw [← Int32.toInt_inj, Int32.toInt_ofNat_of_lt (by omega)]
    omega
theorem lw_i (t j : Nat) (h : 6 * t + j < 1000) : (Int32.ofNat (6 * t) + Int32.ofNat j).toNatClampNeg = 6 * t + j ∧ ¬ (Int32.ofNat (6 * t) + Int32.ofNat j) < 0 := by
  rw [← Int32.ofNat_add]
  have h1 := Int32.toInt_ofNat_of_lt (n := 6 * t + j) (by omega)
  constructor
  · show (Int32.ofNat (6 * t + j)).toInt.toNat = _
    rw [h1]
    omega
  · rw [Int32.lt_iff_toInt_lt, h1]
    have : (0 : Int32).toInt = 0 := rfl
    omega
theorem lw_in {t j L : Nat} (hL : L ≤ 384) (h : 6 * t + 6 ≤ L) (hj : j < 6) : vp_in (Int32.ofNat (6 * t) + Int32.ofNat j) L := by
  obtain ⟨h1, h2⟩ := lw_i t j (by omega)
  intro h
  rcases h with h | h
  · exact h2 h
  · omega
theorem lw_gt {t L : Nat} (hL : L ≤ 384) (ht : 6 * t ≤ L) (h : ¬ (Int32.ofNat L - 6 < Int32.ofNat (6 * t))) : 6 * t + 6 ≤ L := by
  rw [Int32.lt_iff_toInt_lt, Int32.toInt_sub, Int32.toInt_ofNat_of_lt (by omega), Int32.toInt_ofNat_of_lt (by omega)] at h
  have h6 : (6 : Int32).toInt = 6 := rfl
  rw [h6, Int.bmod_def] at h
  split at h <;> omega
set_option maxHeartbeats 4000000 in
theorem lw_loop {G : Bool → Bool → am_M → Prop} (hG : ok_all G) {F : gv_F} {b L : Nat} {xs : Nat → Int32} (hF : lw_F F b L xs) (hA : F.2.2.2.2.2.1 = #[Value.ref b]) (hQ : F.2.2.2.2.2.2.2.2.2.1 = lw_Z F.2.2.2.2.2.2.1 #[Value.ref b] F.2.2.2.1) (hL : L ≤ 384) : ∀ (n t : Nat) (K : am_K) (M : am_M) (tr kp : Bool), t + n = 65 → 6 * t ≤ L → am_ad K (9200, 0, 0) = b → am_Kst K tr kp → G tr kp M → gv F m_L_law K (240 + 187 * t) (6272 + 4694 * t) 18 [(0, .inr (.inr (9200, 0, 0))), (1, .inr (.inr (4, 0, 0))), (2, .inr (.inr (5, 0, 0))), (3, .inl (Int32.ofNat (6 * t)))] [] M := by
  intro n
  induction n with
  | zero => intro t K M tr kp h1 h2; omega
  | succ n ih =>
    intro t K M tr kp hn ht hb hst hg
    have hT : va_T .int (am_ad K (9200, 0, 0)) L (fun j => .int (xs j)) F.2.2.2.2.2.2.2.2.2.2 F.2.2.2.1 F.2.2.2.1.heap := by rw [hb]; exact hF.2.2.2
    refine gv_iload_n dL_law_18 rfl ?_
    refine gv_aload_n dL_law_19 rfl ?_
    refine gv_tabN dL_law_20 hT rfl ?_
    refine gv_bipush dL_law_21 bp_6 ?_
    refine gv_isub dL_law_23 ?_
    refine gv_icmp_gt 1502 dL_law_24 rfl (fun b1 => ?_) (fun b1 => ?_)
    · refine gv_iconst dL_law_1502 ic_1 ?_
      exact gv_lwret hF hA hQ (by omega) (by omega)
    · have h6 := lw_gt hL ht b1
      have h0 : vp_in (Int32.ofNat (6 * t)) L := by
        have := lw_in (j := 0) hL h6 (by omega)
        rwa [show Int32.ofNat 0 = 0 from rfl, Int32.add_zero] at this
      have hi : vp_in (Int32.ofNat (6 * t) + 1) L ∧ vp_in (Int32.ofNat (6 * t) + 2) L ∧ vp_in (Int32.ofNat (6 * t) + 3) L ∧ vp_in (Int32.ofNat (6 * t) + 4) L ∧ vp_in (Int32.ofNat (6 * t) + 5) L := ⟨lw_in (j := 1) hL h6 (by omega), lw_in (j := 2) hL h6 (by omega), lw_in (j := 3) hL h6 (by omega), lw_in (j := 4) hL h6 (by omega), lw_in (j := 5) hL h6 (by omega)⟩
      refine gv_aload_n dL_law_27 rfl ?_
      refine gv_iload_n dL_law_28 rfl ?_
      refine gv_tabI dL_law_29 hT h0 ?_
      refine gv_bipush dL_law_30 bp_63 ?_
      refine gv_iand dL_law_32 ?_
      have KX : ∀ K1 M1 tr1 kp1, am_Ex K K1 → am_Kst K1 tr1 kp1 → G tr1 kp1 M1 → gv F m_L_law K1 (240 + 187 * t + 187) (6272 + 4694 * t + 4694) 1496 [(0, .inr (.inr (9200, 0, 0))), (1, .inr (.inr (4, 0, 0))), (2, .inr (.inr (5, 0, 0))), (3, .inl (Int32.ofNat (6 * t)))] [] M1 := by
        intro K1 M1 tr1 kp1 hE hst1 hg1
        refine gv_iinc (v := Int32.ofNat (6 * (t + 1))) (ls' := [(0, .inr (.inr (9200, 0, 0))), (1, .inr (.inr (4, 0, 0))), (2, .inr (.inr (5, 0, 0))), (3, .inl (Int32.ofNat (6 * (t + 1))))]) dL_law_1496 rfl ((Int32.ofNat_add (6 * t) 6).symm) (Nat.le_of_ble_eq_true rfl) rfl ?_
        refine gv_goto 18 dL_law_1499 rfl ?_
        have h9 := ih (t + 1) K1 M1 tr1 kp1 (by omega) (by omega) ((hE.2.2.2.1 (9200, 0, 0) (Or.inr (by decide))).trans hb) hst1 hg1
        rw [show 240 + 187 * (t + 1) = 240 + 187 * t + 187 from by omega, show 6272 + 4694 * (t + 1) = 6272 + 4694 * t + 4694 from by omega] at h9
        exact h9
      obtain ⟨g0, g1, g2, g3, g4, g5, g6, g7, g8, g9, g10, g11, g12, g13, g14, g15, g16, g17, g18, g19, g20, g21, g22, g23, g24, g25, g26, g27, g28, g29, g30, g31, g32, g33, g34, g35, g36, g37, g38, g39, g40, g41, g42, g43, g44, g45, g46, g47, g48⟩ := hG
      generalize xs (Int32.ofNat (6 * t)).toNatClampNeg &&& 63 = w
      rcases lw_sw w with h | ⟨k, hk, rfl⟩
      · exact gv_swOut 1496 dL_law_33 h rfl (gv_wide (by omega) (by omega) (KX K M tr kp (am_Ex.rf K) hst hg))
      rcases k with _ | k
      · exact gv_swIn 244 dL_law_33 (by decide) (by decide) rfl rfl (lw_c_row g0 hF hb (by omega) (by omega) hst hg hi KX)
      rcases k with _ | k
      · exact gv_swIn 287 dL_law_33 (by decide) (by decide) rfl rfl (lw_c_set g1 hF hb (by omega) (by omega) hst hg hi KX)
      rcases k with _ | k
      · exact gv_swIn 360 dL_law_33 (by decide) (by decide) rfl rfl (lw_c_copy g2 hF hb (by omega) (by omega) hst hg hi KX)
      rcases k with _ | k
      · exact gv_swIn 423 dL_law_33 (by decide) (by decide) rfl rfl (lw_c_element g3 hF hb (by omega) (by omega) hst hg hi KX)
      rcases k with _ | k
      · exact gv_swIn 457 dL_law_33 (by decide) (by decide) rfl rfl (lw_c_holds g4 hF hb (by omega) (by omega) hst hg hi KX)
      rcases k with _ | k
      · exact gv_swIn 480 dL_law_33 (by decide) (by decide) rfl rfl (lw_c_drawing g5 hF hb (by omega) (by omega) hst hg hi KX)
      rcases k with _ | k
      · exact gv_swIn 523 dL_law_33 (by decide) (by decide) rfl rfl (lw_c_says g6 hF hb (by omega) (by omega) hst hg hi KX)
      rcases k with _ | k
      · exact gv_swIn 556 dL_law_33 (by decide) (by decide) rfl rfl (lw_c_heap g7 hF hb (by omega) (by omega) hst hg hi KX)
      rcases k with _ | k
      · exact gv_swIn 589 dL_law_33 (by decide) (by decide) rfl rfl (lw_c_fact g8 hF hb (by omega) (by omega) hst hg hi KX)
      rcases k with _ | k
      · exact gv_swIn 632 dL_law_33 (by decide) (by decide) rfl rfl (lw_c_forget g9 hF hb (by omega) (by omega) hst hg hi KX)
      rcases k with _ | k
      · exact gv_swIn 655 dL_law_33 (by decide) (by decide) rfl rfl (lw_c_swap g10 hF hb (by omega) (by omega) hst hg hi KX)
      rcases k with _ | k
      · exact gv_swIn 688 dL_law_33 (by decide) (by decide) rfl rfl (lw_c_feed g11 hF hb (by omega) (by omega) hst hg hi KX)
      rcases k with _ | k
      · exact gv_swIn 711 dL_law_33 (by decide) (by decide) rfl rfl (lw_c_wipe g12 hF hb (by omega) (by omega) hst hg hi KX)
      rcases k with _ | k
      · exact gv_swIn 724 dL_law_33 (by decide) (by decide) rfl rfl (lw_c_drum g13 hF hb (by omega) (by omega) hst hg hi KX)
      rcases k with _ | k
      · exact gv_swIn 737 dL_law_33 (by decide) (by decide) rfl rfl (lw_c_heapOf g14 hF hb (by omega) (by omega) hst hg hi KX)
      rcases k with _ | k
      · exact gv_swIn 770 dL_law_33 (by decide) (by decide) rfl rfl (lw_c_factOf g15 hF hb (by omega) (by omega) hst hg hi KX)
      rcases k with _ | k
      · exact gv_swIn 803 dL_law_33 (by decide) (by decide) rfl rfl (lw_c_rows g16 hF hb (by omega) (by omega) hst hg hi KX)
      rcases k with _ | k
      · exact gv_swIn 816 dL_law_33 (by decide) (by decide) rfl rfl (lw_c_ways g17 hF hb (by omega) (by omega) hst hg hi KX)
      rcases k with _ | k
      · exact gv_swIn 829 dL_law_33 (by decide) (by decide) rfl rfl (lw_c_read g18 hF hb (by omega) (by omega) hst hg hi KX)
      rcases k with _ | k
      · exact gv_swIn 868 dL_law_33 (by decide) (by decide) rfl rfl (lw_c_slip g19 hF hb (by omega) (by omega) hst hg hi KX)
      rcases k with _ | k
      · exact gv_swIn 891 dL_law_33 (by decide) (by decide) rfl rfl (lw_c_again g20 hF hb (by omega) (by omega) hst hg hi KX)
      rcases k with _ | k
      · exact gv_swIn 904 dL_law_33 (by decide) (by decide) rfl rfl (lw_c_lead g21 hF hb (by omega) (by omega) hst hg hi KX)
      rcases k with _ | k
      · exact gv_swIn 917 dL_law_33 (by decide) (by decide) rfl rfl (lw_c_ahead g22 hF hb (by omega) (by omega) hst hg hi KX)
      rcases k with _ | k
      · exact gv_swIn 940 dL_law_33 (by decide) (by decide) rfl rfl (lw_c_never g23 hF hb (by omega) (by omega) hst hg hi KX)
      rcases k with _ | k
      · exact gv_swIn 953 dL_law_33 (by decide) (by decide) rfl rfl (lw_c_level g24 hF hb (by omega) (by omega) hst hg hi KX)
      rcases k with _ | k
      · exact gv_swIn 976 dL_law_33 (by decide) (by decide) rfl rfl (lw_c_last g25 hF hb (by omega) (by omega) hst hg hi KX)
      rcases k with _ | k
      · exact gv_swIn 999 dL_law_33 (by decide) (by decide) rfl rfl (lw_c_greatest g26 hF hb (by omega) (by omega) hst hg hi KX)
      rcases k with _ | k
      · exact gv_swIn 1022 dL_law_33 (by decide) (by decide) rfl rfl (lw_c_sure g27 hF hb (by omega) (by omega) hst hg hi KX)
      rcases k with _ | k
      · exact gv_swIn 1045 dL_law_33 (by decide) (by decide) rfl rfl (lw_c_soFar g28 hF hb (by omega) (by omega) hst hg hi KX)
      rcases k with _ | k
      · exact gv_swIn 1078 dL_law_33 (by decide) (by decide) rfl rfl (lw_c_spent g29 hF hb (by omega) (by omega) hst hg hi KX)
      rcases k with _ | k
      · exact gv_swIn 1092 dL_law_33 (by decide) (by decide) rfl rfl (lw_c_mean g30 hF hb (by omega) (by omega) hst hg hi KX)
      rcases k with _ | k
      · exact gv_swIn 1106 dL_law_33 (by decide) (by decide) rfl rfl (lw_c_price g31 hF hb (by omega) (by omega) hst hg hi KX)
      rcases k with _ | k
      · exact gv_swIn 1129 dL_law_33 (by decide) (by decide) rfl rfl (lw_c_often g32 hF hb (by omega) (by omega) hst hg hi KX)
      rcases k with _ | k
      · exact gv_swIn 1142 dL_law_33 (by decide) (by decide) rfl rfl (lw_c_half g33 hF hb (by omega) (by omega) hst hg hi KX)
      rcases k with _ | k
      · exact gv_swIn 1155 dL_law_33 (by decide) (by decide) rfl rfl (lw_c_isSure g34 hF hb (by omega) (by omega) hst hg hi KX)
      rcases k with _ | k
      · exact gv_swIn 1168 dL_law_33 (by decide) (by decide) rfl rfl (lw_c_head g35 hF hb (by omega) (by omega) hst hg hi KX)
      rcases k with _ | k
      · exact gv_swIn 1181 dL_law_33 (by decide) (by decide) rfl rfl (lw_c_judge g36 hF hb (by omega) (by omega) hst hg hi KX)
      rcases k with _ | k
      · exact gv_swIn 1204 dL_law_33 (by decide) (by decide) rfl rfl (lw_c_told g37 hF hb (by omega) (by omega) hst hg hi KX)
      rcases k with _ | k
      · exact gv_swIn 1237 dL_law_33 (by decide) (by decide) rfl rfl (lw_c_luck g38 hF hb (by omega) (by omega) hst hg hi KX)
      rcases k with _ | k
      · exact gv_swIn 1260 dL_law_33 (by decide) (by decide) rfl rfl (lw_c_order g39 hF hb (by omega) (by omega) hst hg hi KX)
      rcases k with _ | k
      · exact gv_swIn 1309 dL_law_33 (by decide) (by decide) rfl rfl (lw_c_lost g40 hF hb (by omega) (by omega) hst hg hi KX)
      rcases k with _ | k
      · exact gv_swIn 1332 dL_law_33 (by decide) (by decide) rfl rfl (lw_c_books g41 hF hb (by omega) (by omega) hst hg hi KX)
      rcases k with _ | k
      · exact gv_swIn 1365 dL_law_33 (by decide) (by decide) rfl rfl (lw_c_unlike g42 hF hb (by omega) (by omega) hst hg hi KX)
      rcases k with _ | k
      · exact gv_swIn 1398 dL_law_33 (by decide) (by decide) rfl rfl (lw_c_draw g43 hF hb (by omega) (by omega) hst hg hi KX)
      rcases k with _ | k
      · exact gv_swIn 1411 dL_law_33 (by decide) (by decide) rfl rfl (lw_c_evening g44 hF hb (by omega) (by omega) hst hg hi KX)
      rcases k with _ | k
      · exact gv_swIn 1424 dL_law_33 (by decide) (by decide) rfl rfl (lw_c_seed g45 hF hb (by omega) (by omega) hst hg hi KX)
      rcases k with _ | k
      · exact gv_swIn 1447 dL_law_33 (by decide) (by decide) rfl rfl (lw_c_image g46 hF hb (by omega) (by omega) hst hg hi KX)
      rcases k with _ | k
      · exact gv_swIn 1460 dL_law_33 (by decide) (by decide) rfl rfl (lw_c_back g47 hF hb (by omega) (by omega) hst hg hi KX)
      rcases k with _ | k
      · exact gv_swIn 1473 dL_law_33 (by decide) (by decide) rfl rfl (lw_c_status g48 hF hb (by omega) (by omega) hst hg hi KX)
      omega
/-- the law from its entry, in the small machine -/
theorem lw_begin {G : Bool → Bool → am_M → Prop} (hG : ok_all G) (h0 : G false false (am_rst am_M0 0)) {F : gv_F} {K : am_K} {M : am_M} {b L : Nat} {xs : Nat → Int32} (hF : lw_F F b L xs) (hA : F.2.2.2.2.2.1 = #[Value.ref b]) (hQ : F.2.2.2.2.2.2.2.2.2.1 = lw_Z F.2.2.2.2.2.2.1 #[Value.ref b] F.2.2.2.1) (hL : L ≤ 384) (hdom : am_dom K = []) (hb : am_ad K (9200, 0, 0) = b) : gv F m_L_law K 0 0 0 [(0, .inr (.inr (9200, 0, 0)))] [] M := by
  have hR := hF.1
  refine gv_new4 (by rw [hR]; exact ⟨by decide, by decide, by decide, by decide⟩) hF.2.2.1 dL_law_0 dL_law_3 dL_law_4 cl_L_7 ml_L_9 hdom (lw_A0 hF) (lw_A1 hF K) (Nat.le_of_ble_eq_true rfl) (fun ad1 hE1 => ?_)
  refine gv_astore_n (ls' := [(0, .inr (.inr (9200, 0, 0))), (1, .inr (.inr (4, 0, 0)))]) dL_law_7 (Nat.le_of_ble_eq_true rfl) rfl ?_
  refine gv_new5 (d := 0) (by rw [hR]; exact ⟨by decide, by decide, by decide, by decide⟩) hF.2.2.1 dL_law_8 dL_law_11 dL_law_12 cl_L_10 ml_L_12 (am_N4no 0) (fun j => rfl) (lw_A0 hF) (lw_A1 hF _) (Nat.le_of_ble_eq_true rfl) (fun ad2 hE2 => ?_)
  refine gv_astore_n (ls' := [(0, .inr (.inr (9200, 0, 0))), (1, .inr (.inr (4, 0, 0))), (2, .inr (.inr (5, 0, 0)))]) dL_law_15 (Nat.le_of_ble_eq_true rfl) rfl ?_
  refine gv_iconst dL_law_16 ic_0 ?_
  refine gv_istore_n (ls' := [(0, .inr (.inr (9200, 0, 0))), (1, .inr (.inr (4, 0, 0))), (2, .inr (.inr (5, 0, 0))), (3, .inl 0)]) dL_law_17 (Nat.le_of_ble_eq_true rfl) rfl ?_
  have hst : am_Kst (am_extN (am_first K ad1) am_dom_X5_init 0 ad2) false false := by
    have h4 : ∀ r ∈ am_dom_X4_init, r.1 ≠ 5 := by decide +kernel
    have h5 : ∀ r ∈ am_dom_X5_init, r.1 = 5 → r = (5, 0, 0) := by decide +kernel
    have h6 : ∀ r ∈ am_dom_X5_init, r.2.1 = 0 := by decide +kernel
    have hn : ∀ d, d ≠ 0 → ∀ r ∈ am_dom (am_extN (am_first K ad1) am_dom_X5_init 0 ad2), ¬ (am_isM r.1 = true ∧ r.2.1 = d) := by
      intro d hd r hr h
      rcases List.mem_append.mp hr with h1 | h1
      · exact am_N4no d r h1 h
      · obtain ⟨p, hp, rfl⟩ := List.mem_map.mp h1
        exact hd h.2.symm
    refine ⟨List.mem_append_right _ (List.mem_map.mpr ⟨(5, 0, 0), by decide +kernel, rfl⟩), fun r hr e1 e2 => ?_, fun o j _ => rfl, fun h => absurd h (by decide), fun _ => ⟨rfl, hn 1 (by decide)⟩, fun h => absurd h (by decide), fun _ => ⟨rfl, hn 2 (by decide)⟩⟩
    rcases List.mem_append.mp hr with h1 | h1
    · exact absurd e1 (h4 r h1)
    · obtain ⟨p, hp, rfl⟩ := List.mem_map.mp h1
      have := h5 p hp e1
      subst this
      rfl
  have hb2 : am_ad (am_extN (am_first K ad1) am_dom_X5_init 0 ad2) (9200, 0, 0) = b := ((hE1.trans hE2).2.2.2.1 (9200, 0, 0) (Or.inr (by decide))).trans hb
  exact lw_loop hG hF hA hQ hL 65 0 _ _ false false rfl (Nat.zero_le _) hb2 hst h0
